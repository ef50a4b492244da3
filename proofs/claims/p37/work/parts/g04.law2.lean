/-! the law: its state, its cases (printed by wip/rows/genG4.py) -/
def DX10_thrown : List (Nat × Instr × Nat) := [(0, .aload_n 0, 1), (1, .getfield 28, 3), (4, .ireturn, 1)]
set_option maxRecDepth 100000 in
theorem DX10_thrown_ok : ∀ q ∈ DX10_thrown, decode cX10_thrown q.1 = .ok q.2 := ck_ok (by decide +kernel)
set_option maxRecDepth 100000 in
theorem lcX10_thrown : Cond.code yX10_thrown cX10_thrown 1 (some .int) ∈ WT := WT_of (tbw_6 (List.mem_of_getElem? (i := 110) rfl)) rfl
theorem lkX10_thrown : LK yX10_thrown cX10_thrown 1 0 (some .int) := ⟨lcX10_thrown, liX10, ⟨by decide +kernel, by decide +kernel⟩, by decide +kernel⟩
set_option maxRecDepth 100000 in
theorem lmX10_thrown : Cond.instanceMethod yX10_thrown ∈ WT := WT_of (tbw_6 (List.mem_of_getElem? (i := 108) rfl)) rfl
set_option maxRecDepth 100000 in
theorem lvX10_thrown : Cond.selects yX10_thrown.cls yX10_thrown yX10_thrown ∈ WT := WT_of (tbw_6 (List.mem_of_getElem? (i := 109) rfl)) rfl
set_option maxHeartbeats 4000000 in
theorem RF.c_thrown {la : Launch} {D : va_G} {cA : Nat → ClassId} {B0 pa : Nat} {o S A : Nat} {sl : List (List Nat)} {an : List (List (List Nat))} {da dr kn th : Int32} (h : AH) (M : MD h o S A sl an da dr kn th) : CT la D cA B0 pa yX10_thrown cX10_thrown 1 (some .int) (rmD 0 0 0) [.ref o] h (fun v h' => v = some (.int th) ∧ h' = h) := by
  refine CT_of (by decide +kernel) (Nat.le_of_ble_eq_true rfl) ?_
  intro p e s m args below meth c X E hr hlk hnm
  have dk : ∀ {pc : Nat} {q : Instr × Nat}, lkd DX10_thrown pc = some q → decode cX10_thrown pc = .ok q := lkd_ok DX10_thrown_ok
  refine fst1_ok X (dk rfl) rfl ?_
  refine getf_ok X flX10_28 (dk rfl) M.obj rfl ?_
  exact reti_ok X hr hlk rfl (dk rfl) ⟨rfl, rfl⟩ (Nat.le_of_ble_eq_true rfl) (Nat.le_of_ble_eq_true rfl)
theorem AnO.ck {B : Nat → Nat} {h h' : AH} {o f : Nat} (O : AnO B h o f) (kp : ∀ {b k : Nat} {vs : List Value}, h b = some (k, vs) → ck k = true → h' b = some (k, vs)) : AnO B h' o f := by
  obtain ⟨o1, arr, o2, o3⟩ := O
  exact ⟨o1, arr, kp o2 rfl, kp o3 rfl⟩
/-- the class's state, when the class's cells stay -/
theorem StC.ck {B Q P : Nat → Nat} {ox : Nat} {kn : Int32} {h h' : AH} {st : ST} (C0 : StC B Q P ox kn h st) (kp : ∀ {b k : Nat} {vs : List Value}, h b = some (k, vs) → ck k = true → h' b = some (k, vs)) : StC B Q P ox kn h' st := by
  obtain ⟨F, ⟨S, x, ⟨c1, c2, c3, c4, c5⟩, ⟨t, e, r1⟩, r2, r3, r4, r5⟩, H, O⟩ := C0
  have hx : h ox = some (8, (OXc B P st.2.2.1 st.2.2.2 kn).2) := x
  refine ⟨F, ⟨fun i hi => ?_, kp hx rfl, ⟨kp c1 rfl, kp c2 rfl, fun k hk => (c3 k hk).ck kp, c4.ck kp, c5.ck kp⟩, ⟨t, e, kp r1 rfl⟩, kp r2 rfl, kp r3 rfl, fun k hk => ?_, fun j h1 h2 => ?_⟩, H, O⟩
  · obtain ⟨s1, s2, xs, s3, s4⟩ := S i hi
    exact ⟨s1, kp s2 rfl, xs, kp s3 rfl, s4⟩
  · obtain ⟨w, w1, w2⟩ := r4 k hk
    exact ⟨w, w1, kp w2 rfl⟩
  · obtain ⟨xs, e1, e2⟩ := r5 j h1 h2
    exact ⟨xs, kp e1 rfl, e2⟩
theorem MD.fk {h h' : AH} {o S A : Nat} {sl : List (List Nat)} {an : List (List (List Nat))} {a r kn th : Int32} (M : MD h o S A sl an a r kn th) (hk : ∀ (q : Nat) (c : AC), h q = some c → ck c.1 = false → c.1 ≠ 9 → h' q = some c) : MD h' o S A sl an a r kn th := by
  obtain ⟨m1, ⟨ss, s1, s2, s3⟩, m3, m4, as, m5, m6, m7, m8, m9⟩ := M
  refine ⟨hk _ _ m1 rfl (show (12 : Nat) ≠ 9 by decide), ⟨ss, s1, hk _ _ s2 rfl (show (105 : Nat) ≠ 9 by decide), fun k a r e1 e2 => hk _ _ (s3 k a r e1 e2) rfl (show (100 : Nat) ≠ 9 by decide)⟩, m3, m4, as, m5, m6, hk _ _ m7 rfl (show (106 : Nat) ≠ 9 by decide), m8, fun k b rows e1 e2 => ?_⟩
  obtain ⟨⟨ss', t1, t2, t3⟩, n2⟩ := m9 k b rows e1 e2
  exact ⟨⟨ss', t1, hk _ _ t2 rfl (show (105 : Nat) ≠ 9 by decide), fun k a r e1 e2 => hk _ _ (t3 k a r e1 e2) rfl (show (100 : Nat) ≠ 9 by decide)⟩, n2⟩
/-- the law's state: both objects hold the same -/
def LwI (B Q P : Nat → Nat) (h : AH) (ox om oo : Nat) (kn : Int32) : Prop := ∃ st : ST, StC B Q P ox kn h st ∧ (∃ v w : Value, h oo = some (9, [v, w])) ∧ ∃ (S A : Nat) (th : Int32), MD h om S A st.1 st.2.1 st.2.2.1 st.2.2.2 kn th
section LI
variable {B Q P : Nat → Nat} {h h1 h2 : AH} {ox om oo S A : Nat} {kn km km' th : Int32} {st : ST}
/-- the class went on: the reference's object is as it was -/
theorem LwK.md {sl : List (List Nat)} {an : List (List (List Nat))} {a r : Int32} (K : LwK oo h h1) {v w : Value} (ho : h oo = some (9, [v, w])) (M : MD h om S A sl an a r km th) : MD h1 om S A sl an a r km th :=
  M.fk (fun q c e hc h9 => K.2 q c (fun z => h9 (by rw [z, ho] at e; cases e; rfl)) e hc)
/-- the reference went on: the class's object is as it was -/
theorem StC.fr {sl : List (List Nat)} {an : List (List (List Nat))} {a r : Int32} (C0 : StC B Q P ox kn h1 st) (M : MD h1 om S A sl an a r km th) (F : Fr om S A h1 h2) : StC B Q P ox kn h2 st := by
  obtain ⟨ss, -, s2, -⟩ := M.slot
  obtain ⟨as, -, a2, -⟩ := M.ans
  exact C0.ck (fun {b k vs} e hc => F _ _ (k_ne e M.obj (fun z => by rw [z] at hc; cases hc)) (k_ne e s2 (fun z => by rw [z] at hc; cases hc)) (k_ne e a2 (fun z => by rw [z] at hc; cases hc)) e)
theorem box_fr {sl : List (List Nat)} {an : List (List (List Nat))} {a r : Int32} {v w : Value} (ho : h1 oo = some (9, [v, w])) (M : MD h1 om S A sl an a r km th) (F : Fr om S A h1 h2) : h2 oo = some (9, [v, w]) := by
  obtain ⟨ss, -, s2, -⟩ := M.slot
  obtain ⟨as, -, a2, -⟩ := M.ans
  exact F _ _ (k_ne ho M.obj (by decide)) (k_ne ho s2 (by decide)) (k_ne ho a2 (by decide)) ho
theorem LwI.act {res : RS} {v : Option Value} (S1 : StC B Q P ox kn h1 res.2) (K : LwK oo h h1) (M : MD h1 om S A st.1 st.2.1 st.2.2.1 st.2.2.2 kn th) (R : RF.refR om S A kn res h1 v h2) : LwI B Q P h2 ox om oo kn := by
  obtain ⟨⟨b1, b2, b3⟩, -⟩ := K
  obtain ⟨-, M2, F⟩ := R
  exact ⟨_, S1.fr M F, ⟨b1, b2, box_fr b3 M F⟩, S, A, _, M2⟩
theorem LwI.ask (S1 : StC B Q P ox km' h1 st) (K : LwK oo h h1) (M : MD h1 om S A st.1 st.2.1 st.2.2.1 st.2.2.2 kn th) (R : RF.MI om S A st.1 st.2.1 st.2.2.1 st.2.2.2 km' h1 h2) : LwI B Q P h2 ox om oo km' := by
  obtain ⟨⟨b1, b2, b3⟩, -⟩ := K
  obtain ⟨⟨th', M2⟩, F⟩ := R
  exact ⟨st, S1.fr M F, ⟨b1, b2, box_fr b3 M F⟩, S, A, th', M2⟩
end LI
theorem flnL_13 : FLN RL 13 9 0 := ⟨RX7, TX7, 2, "BranchmatchLaw", rfl, cwX7, by decide, fnL_13, rfl⟩
theorem lg_same (x : Int64) : lg_cmp x x = 0 := by
  unfold lg_cmp
  first | (simp; done) | (split <;> simp_all)
theorem goB40 : GoB 40 8420 97110 := fun one other h1 h2 => by
  obtain ⟨G, g1, -, g2, g3, -⟩ := goE h1 h2
  exact ⟨G, g1, g2, g3⟩
/-- the script -/
def Scr (b L : Nat) (xs : Nat → Int32) (s : State) (B0 : Nat) : Prop := va_X b L xs s s.heap ∧ b < s.heap.size ∧ ¬ B0 ≤ b ∧ L ≤ 384
theorem i63 (x : Int32) : ∃ t : Nat, t < 64 ∧ x &&& (Int8.ofInt 63).toInt32 = nI t := by
  refine ⟨(x &&& (Int8.ofInt 63).toInt32).toUInt32.toNat, ?_, ?_⟩
  · have h1 : (x &&& (Int8.ofInt 63).toInt32).toUInt32 = x.toUInt32 &&& 63 := rfl
    rw [h1, UInt32.toNat_and]
    exact Nat.lt_of_le_of_lt Nat.and_le_right (by decide)
  · exact (nI_self _).symm
section LC
variable {p : Program} {la : Launch} {e : Env} {R : Room} {s : State} {m : MethodId} {args : Array Value} {below : List Frame} {meth : Method} {c : Code} {Q : State → Prop}
variable {D : va_G} {cA : Nat → ClassId} {B0 pa nL : Nat} {cc : ByteArray} {own : String} {pc k n : Nat} {l : List (Nat × Value)} {r : List Value} {h : AH}
variable {b L i ox om oo : Nat} {xs : Nat → Int32} {kn : Int32} {BB QQ PP : Nat → Nat}
/-- an entry of the script -/
theorem sld_ok (X : CX p s m args c D cA B0 nL cc own) (SC : Scr b L xs s B0) {y : Int32} (j : Nat) (hy : y = nI j) (hij : i + j < L) (hd : decode cc pc = .ok (.iaload, 1))
    (kk : ∀ x : Int32, x = xs (i + j) → WS p la e R s m args below meth c Q D cA B0 nL (pc + 1) l (.int x :: r) h k n) : WS p la e R s m args below meth c Q D cA B0 nL pc l (.int (nI i + y) :: .ref b :: r) h k n := by
  obtain ⟨s1, s2, s3, s4⟩ := SC
  subst hy
  rw [nI_add]
  intro H locs ls hH hls
  refine va_sld X.1 X.2.1 s1 s2 s3 hH.2 ?_ hd (kk _ (congrArg xs (nI_clamp (by omega))) H locs ls hH hls)
  rintro (q | q)
  · exact nI_pos (by omega) q
  · rw [nI_clamp (by omega)] at q
    omega
theorem sld0_ok (X : CX p s m args c D cA B0 nL cc own) (SC : Scr b L xs s B0) (hij : i < L) (hd : decode cc pc = .ok (.iaload, 1))
    (kk : ∀ x : Int32, WS p la e R s m args below meth c Q D cA B0 nL (pc + 1) l (.int x :: r) h k n) : WS p la e R s m args below meth c Q D cA B0 nL pc l (vI i :: .ref b :: r) h k n := by
  obtain ⟨s1, s2, s3, s4⟩ := SC
  intro H locs ls hH hls
  refine va_sld X.1 X.2.1 s1 s2 s3 hH.2 ?_ hd (kk _ H locs ls hH hls)
  rintro (q | q)
  · exact nI_pos (by omega) q
  · rw [nI_clamp (by omega)] at q
    omega
theorem slen_ok (X : CX p s m args c D cA B0 nL cc own) (SC : Scr b L xs s B0) (hd : decode cc pc = .ok (.arraylength, 1))
    (kk : WS p la e R s m args below meth c Q D cA B0 nL (pc + 1) l (vI L :: r) h k n) : WS p la e R s m args below meth c Q D cA B0 nL pc l (.ref b :: r) h k n := by
  obtain ⟨s1, s2, s3, s4⟩ := SC
  intro H locs ls hH hls
  exact va_slen X.1 X.2.1 s1 s2 s3 hH.2 hd (kk H locs ls hH hls)
theorem hyL_name : yL_name.cls ≠ "java/lang/invoke/MethodHandle" ∧ yL_name.cls ≠ "java/lang/invoke/VarHandle" ∧ (parseMethodDescriptor yL_name.desc).map (fun d => d.parameters.length) = some 4 := by decide +kernel
theorem hyL_head : yL_head.cls ≠ "java/lang/invoke/MethodHandle" ∧ yL_head.cls ≠ "java/lang/invoke/VarHandle" ∧ (parseMethodDescriptor yL_head.desc).map (fun d => d.parameters.length) = some 7 := by decide +kernel
theorem hyL_copy : yL_copy.cls ≠ "java/lang/invoke/MethodHandle" ∧ yL_copy.cls ≠ "java/lang/invoke/VarHandle" ∧ (parseMethodDescriptor yL_copy.desc).map (fun d => d.parameters.length) = some 4 := by decide +kernel
theorem hyL_swap : yL_swap.cls ≠ "java/lang/invoke/MethodHandle" ∧ yL_swap.cls ≠ "java/lang/invoke/VarHandle" ∧ (parseMethodDescriptor yL_swap.desc).map (fun d => d.parameters.length) = some 4 := by decide +kernel
theorem hyL_part : yL_part.cls ≠ "java/lang/invoke/MethodHandle" ∧ yL_part.cls ≠ "java/lang/invoke/VarHandle" ∧ (parseMethodDescriptor yL_part.desc).map (fun d => d.parameters.length) = some 5 := by decide +kernel
theorem hyL_graft : yL_graft.cls ≠ "java/lang/invoke/MethodHandle" ∧ yL_graft.cls ≠ "java/lang/invoke/VarHandle" ∧ (parseMethodDescriptor yL_graft.desc).map (fun d => d.parameters.length) = some 5 := by decide +kernel
theorem hyL_put : yL_put.cls ≠ "java/lang/invoke/MethodHandle" ∧ yL_put.cls ≠ "java/lang/invoke/VarHandle" ∧ (parseMethodDescriptor yL_put.desc).map (fun d => d.parameters.length) = some 5 := by decide +kernel
theorem hyL_shift : yL_shift.cls ≠ "java/lang/invoke/MethodHandle" ∧ yL_shift.cls ≠ "java/lang/invoke/VarHandle" ∧ (parseMethodDescriptor yL_shift.desc).map (fun d => d.parameters.length) = some 4 := by decide +kernel
theorem hyL_plain : yL_plain.cls ≠ "java/lang/invoke/MethodHandle" ∧ yL_plain.cls ≠ "java/lang/invoke/VarHandle" ∧ (parseMethodDescriptor yL_plain.desc).map (fun d => d.parameters.length) = some 3 := by decide +kernel
theorem hyL_use : yL_use.cls ≠ "java/lang/invoke/MethodHandle" ∧ yL_use.cls ≠ "java/lang/invoke/VarHandle" ∧ (parseMethodDescriptor yL_use.desc).map (fun d => d.parameters.length) = some 5 := by decide +kernel
theorem hyL_common : yL_common.cls ≠ "java/lang/invoke/MethodHandle" ∧ yL_common.cls ≠ "java/lang/invoke/VarHandle" ∧ (parseMethodDescriptor yL_common.desc).map (fun d => d.parameters.length) = some 5 := by decide +kernel
theorem hyL_forget : yL_forget.cls ≠ "java/lang/invoke/MethodHandle" ∧ yL_forget.cls ≠ "java/lang/invoke/VarHandle" ∧ (parseMethodDescriptor yL_forget.desc).map (fun d => d.parameters.length) = some 3 := by decide +kernel
theorem hyL_tell : yL_tell.cls ≠ "java/lang/invoke/MethodHandle" ∧ yL_tell.cls ≠ "java/lang/invoke/VarHandle" ∧ (parseMethodDescriptor yL_tell.desc).map (fun d => d.parameters.length) = some 5 := by decide +kernel
theorem hyL_take : yL_take.cls ≠ "java/lang/invoke/MethodHandle" ∧ yL_take.cls ≠ "java/lang/invoke/VarHandle" ∧ (parseMethodDescriptor yL_take.desc).map (fun d => d.parameters.length) = some 4 := by decide +kernel
theorem hyL_behind : yL_behind.cls ≠ "java/lang/invoke/MethodHandle" ∧ yL_behind.cls ≠ "java/lang/invoke/VarHandle" ∧ (parseMethodDescriptor yL_behind.desc).map (fun d => d.parameters.length) = some 5 := by decide +kernel
theorem hyL_alike : yL_alike.cls ≠ "java/lang/invoke/MethodHandle" ∧ yL_alike.cls ≠ "java/lang/invoke/VarHandle" ∧ (parseMethodDescriptor yL_alike.desc).map (fun d => d.parameters.length) = some 6 := by decide +kernel
theorem hyL_match : yL_match.cls ≠ "java/lang/invoke/MethodHandle" ∧ yL_match.cls ≠ "java/lang/invoke/VarHandle" ∧ (parseMethodDescriptor yL_match.desc).map (fun d => d.parameters.length) = some 5 := by decide +kernel
theorem hyL_text : yL_text.cls ≠ "java/lang/invoke/MethodHandle" ∧ yL_text.cls ≠ "java/lang/invoke/VarHandle" ∧ (parseMethodDescriptor yL_text.desc).map (fun d => d.parameters.length) = some 3 := by decide +kernel
theorem hyL_size : yL_size.cls ≠ "java/lang/invoke/MethodHandle" ∧ yL_size.cls ≠ "java/lang/invoke/VarHandle" ∧ (parseMethodDescriptor yL_size.desc).map (fun d => d.parameters.length) = some 3 := by decide +kernel
theorem hyL_depth : yL_depth.cls ≠ "java/lang/invoke/MethodHandle" ∧ yL_depth.cls ≠ "java/lang/invoke/VarHandle" ∧ (parseMethodDescriptor yL_depth.desc).map (fun d => d.parameters.length) = some 3 := by decide +kernel
theorem hyL_shared : yL_shared.cls ≠ "java/lang/invoke/MethodHandle" ∧ yL_shared.cls ≠ "java/lang/invoke/VarHandle" ∧ (parseMethodDescriptor yL_shared.desc).map (fun d => d.parameters.length) = some 3 := by decide +kernel
theorem hyL_letter : yL_letter.cls ≠ "java/lang/invoke/MethodHandle" ∧ yL_letter.cls ≠ "java/lang/invoke/VarHandle" ∧ (parseMethodDescriptor yL_letter.desc).map (fun d => d.parameters.length) = some 4 := by decide +kernel
theorem hyL_sizeAt : yL_sizeAt.cls ≠ "java/lang/invoke/MethodHandle" ∧ yL_sizeAt.cls ≠ "java/lang/invoke/VarHandle" ∧ (parseMethodDescriptor yL_sizeAt.desc).map (fun d => d.parameters.length) = some 4 := by decide +kernel
theorem hyL_count : yL_count.cls ≠ "java/lang/invoke/MethodHandle" ∧ yL_count.cls ≠ "java/lang/invoke/VarHandle" ∧ (parseMethodDescriptor yL_count.desc).map (fun d => d.parameters.length) = some 4 := by decide +kernel
theorem hyL_names : yL_names.cls ≠ "java/lang/invoke/MethodHandle" ∧ yL_names.cls ≠ "java/lang/invoke/VarHandle" ∧ (parseMethodDescriptor yL_names.desc).map (fun d => d.parameters.length) = some 3 := by decide +kernel
theorem hyL_find : yL_find.cls ≠ "java/lang/invoke/MethodHandle" ∧ yL_find.cls ≠ "java/lang/invoke/VarHandle" ∧ (parseMethodDescriptor yL_find.desc).map (fun d => d.parameters.length) = some 4 := by decide +kernel
theorem hyL_differ : yL_differ.cls ≠ "java/lang/invoke/MethodHandle" ∧ yL_differ.cls ≠ "java/lang/invoke/VarHandle" ∧ (parseMethodDescriptor yL_differ.desc).map (fun d => d.parameters.length) = some 4 := by decide +kernel
theorem hyL_is : yL_is.cls ≠ "java/lang/invoke/MethodHandle" ∧ yL_is.cls ≠ "java/lang/invoke/VarHandle" ∧ (parseMethodDescriptor yL_is.desc).map (fun d => d.parameters.length) = some 5 := by decide +kernel
theorem hyL_can : yL_can.cls ≠ "java/lang/invoke/MethodHandle" ∧ yL_can.cls ≠ "java/lang/invoke/VarHandle" ∧ (parseMethodDescriptor yL_can.desc).map (fun d => d.parameters.length) = some 5 := by decide +kernel
theorem hyL_steps : yL_steps.cls ≠ "java/lang/invoke/MethodHandle" ∧ yL_steps.cls ≠ "java/lang/invoke/VarHandle" ∧ (parseMethodDescriptor yL_steps.desc).map (fun d => d.parameters.length) = some 4 := by decide +kernel
theorem hyL_why : yL_why.cls ≠ "java/lang/invoke/MethodHandle" ∧ yL_why.cls ≠ "java/lang/invoke/VarHandle" ∧ (parseMethodDescriptor yL_why.desc).map (fun d => d.parameters.length) = some 4 := by decide +kernel
theorem hyL_told : yL_told.cls ≠ "java/lang/invoke/MethodHandle" ∧ yL_told.cls ≠ "java/lang/invoke/VarHandle" ∧ (parseMethodDescriptor yL_told.desc).map (fun d => d.parameters.length) = some 4 := by decide +kernel
theorem hyL_moved : yL_moved.cls ≠ "java/lang/invoke/MethodHandle" ∧ yL_moved.cls ≠ "java/lang/invoke/VarHandle" ∧ (parseMethodDescriptor yL_moved.desc).map (fun d => d.parameters.length) = some 3 := by decide +kernel
theorem hyL_makes : yL_makes.cls ≠ "java/lang/invoke/MethodHandle" ∧ yL_makes.cls ≠ "java/lang/invoke/VarHandle" ∧ (parseMethodDescriptor yL_makes.desc).map (fun d => d.parameters.length) = some 5 := by decide +kernel
theorem hyL_isSo : yL_isSo.cls ≠ "java/lang/invoke/MethodHandle" ∧ yL_isSo.cls ≠ "java/lang/invoke/VarHandle" ∧ (parseMethodDescriptor yL_isSo.desc).map (fun d => d.parameters.length) = some 4 := by decide +kernel
theorem hyL_unlike : yL_unlike.cls ≠ "java/lang/invoke/MethodHandle" ∧ yL_unlike.cls ≠ "java/lang/invoke/VarHandle" ∧ (parseMethodDescriptor yL_unlike.desc).map (fun d => d.parameters.length) = some 4 := by decide +kernel
theorem hyL_weight : yL_weight.cls ≠ "java/lang/invoke/MethodHandle" ∧ yL_weight.cls ≠ "java/lang/invoke/VarHandle" ∧ (parseMethodDescriptor yL_weight.desc).map (fun d => d.parameters.length) = some 4 := by decide +kernel
theorem hyL_house : yL_house.cls ≠ "java/lang/invoke/MethodHandle" ∧ yL_house.cls ≠ "java/lang/invoke/VarHandle" ∧ (parseMethodDescriptor yL_house.desc).map (fun d => d.parameters.length) = some 3 := by decide +kernel
set_option maxHeartbeats 8000000 in
theorem law_c0 (X : CX p s m args c D cA B0 7 cL_law RL) (E : EN D cA B0 pa s) (hl : la.stackTraces = false) (SC : Scr b L xs s B0) (hi : i + 6 ≤ L) (Y : LYO BB QQ) (V : LwI BB QQ PP h ox om oo kn) (hk : k + 9300 ≤ 600128 ∧ n + 113000 ≤ 7301098)
    (kk : ∀ (h' : AH) (kn' : Int32), LwI BB QQ PP h' ox om oo kn' → ∀ l' : List (Nat × Value), lsel l' [4, 3, 2, 1, 0] = [(4, vI i), (3, .ref oo), (2, .ref om), (1, .ref ox), (0, .ref b)] → WS p la e room_1 s m args below meth c Q D cA B0 7 1912 l' [] h' (k + 9300) (n + 113000)) : ∀ l : List (Nat × Value), lsel l [4, 3, 2, 1, 0] = [(4, vI i), (3, .ref oo), (2, .ref om), (1, .ref ox), (0, .ref b)] → WS p la e room_1 s m args below meth c Q D cA B0 7 224 l [] h k n := by
  intro l hsl
  have dk : ∀ {pc : Nat} {q : Instr × Nat}, lkd DL_c0 pc = some q → decode cL_law pc = .ok q := lkd_ok DL_c0_ok
  obtain ⟨hk1, hk2⟩ := hk
  obtain ⟨st, C0, ⟨bv, bw, ho⟩, S, A, th, M0⟩ := V
  refine WS.sel [4, 3, 2, 1, 0] hsl ?_
  iterate 5 refine fst1_ok X (dk rfl) rfl ?_
  refine sld_ok X SC 1 (by decide +kernel) (by omega) (dk rfl) (fun x1 ex1 => ?_)
  iterate 4 refine fst1_ok X (dk rfl) rfl ?_
  refine sld_ok X SC 2 (by decide +kernel) (by omega) (dk rfl) (fun x2 ex2 => ?_)
  refine fst1_ok X (dk rfl) rfl ?_
  refine callSH_ok (av := [.ref ox, .int x1, .int x2, .ref oo]) (r := []) X E (w_name h hl Y C0 ho x1 x2) lwL_name liL mlL_152 lsL_name hyL_name ⟨Nat.le_of_ble_eq_true rfl, Nat.le_of_ble_eq_true rfl⟩ ⟨by show k + 2 ≤ 600128; omega, by show n + 12 ≤ 7301098; omega⟩ (Nat.le_of_ble_eq_true rfl) (dk rfl) ?_
  intro v1 h1 W1
  obtain ⟨rfl, W2⟩ := id W1
  have M1 := W1.2.2.1.md ho M0
  iterate 6 refine fst1_ok X (dk rfl) rfl ?_
  refine sld_ok X SC 1 (by decide +kernel) (by omega) (dk rfl) (fun z_ ez => ?_)
  rw [ez.trans ex1.symm]
  clear ez z_
  iterate 4 refine fst1_ok X (dk rfl) rfl ?_
  refine sld_ok X SC 2 (by decide +kernel) (by omega) (dk rfl) (fun z_ ez => ?_)
  rw [ez.trans ex2.symm]
  clear ez z_
  refine callV_ok (ci := 12) (T := TX10) (N := 6) (av := [.int x1, .int x2]) (r := []) X E (RF.c_name _ M1 x1 x2) lkX10_name mlL_157 lmX10_name lvX10_name ⟨Nat.le_of_ble_eq_true rfl, Nat.le_of_ble_eq_true rfl⟩ ⟨by show k + 2 + 1 ≤ 600128; omega, by show n + 12 + 1 ≤ 7301098; omega⟩ rfl M1.obj (Nat.le_of_ble_eq_true rfl) (dk rfl) ?_
  intro v2 h2 P2
  obtain ⟨rfl, P3⟩ := id P2
  refine fst1_ok X (dk rfl) rfl ?_
  refine br_ok X (dk rfl) rfl (show ((261 : Nat) : Int) + 1651 = ((1912 : Nat) : Int) from rfl) (fun _ => ?_) (fun q => absurd trivial q)
  refine WS.widen (k' := k + 9300) (n' := n + 113000) (by show k + 2 + 1 ≤ _; omega) (by show n + 12 + 1 ≤ _; omega) ?_
  exact kk _ _ (LwI.act W1.2.1 W1.2.2.1 M1 P2) _ rfl
set_option maxHeartbeats 8000000 in
theorem law_c1 (X : CX p s m args c D cA B0 7 cL_law RL) (E : EN D cA B0 pa s) (hl : la.stackTraces = false) (SC : Scr b L xs s B0) (hi : i + 6 ≤ L) (Y : LYO BB QQ) (V : LwI BB QQ PP h ox om oo kn) (hk : k + 9300 ≤ 600128 ∧ n + 113000 ≤ 7301098)
    (kk : ∀ (h' : AH) (kn' : Int32), LwI BB QQ PP h' ox om oo kn' → ∀ l' : List (Nat × Value), lsel l' [4, 3, 2, 1, 0] = [(4, vI i), (3, .ref oo), (2, .ref om), (1, .ref ox), (0, .ref b)] → WS p la e room_1 s m args below meth c Q D cA B0 7 1912 l' [] h' (k + 9300) (n + 113000)) : ∀ l : List (Nat × Value), lsel l [4, 3, 2, 1, 0] = [(4, vI i), (3, .ref oo), (2, .ref om), (1, .ref ox), (0, .ref b)] → WS p la e room_1 s m args below meth c Q D cA B0 7 264 l [] h k n := by
  intro l hsl
  have dk : ∀ {pc : Nat} {q : Instr × Nat}, lkd DL_c1 pc = some q → decode cL_law pc = .ok q := lkd_ok DL_c1_ok
  obtain ⟨hk1, hk2⟩ := hk
  obtain ⟨st, C0, ⟨bv, bw, ho⟩, S, A, th, M0⟩ := V
  refine WS.sel [4, 3, 2, 1, 0] hsl ?_
  iterate 5 refine fst1_ok X (dk rfl) rfl ?_
  refine sld_ok X SC 1 (by decide +kernel) (by omega) (dk rfl) (fun x1 ex1 => ?_)
  iterate 4 refine fst1_ok X (dk rfl) rfl ?_
  refine sld_ok X SC 2 (by decide +kernel) (by omega) (dk rfl) (fun x2 ex2 => ?_)
  iterate 4 refine fst1_ok X (dk rfl) rfl ?_
  refine sld_ok X SC 3 (by decide +kernel) (by omega) (dk rfl) (fun x3 ex3 => ?_)
  iterate 4 refine fst1_ok X (dk rfl) rfl ?_
  refine sld_ok X SC 4 (by decide +kernel) (by omega) (dk rfl) (fun x4 ex4 => ?_)
  iterate 4 refine fst1_ok X (dk rfl) rfl ?_
  refine sld_ok X SC 5 (by decide +kernel) (by omega) (dk rfl) (fun x5 ex5 => ?_)
  refine fst1_ok X (dk rfl) rfl ?_
  refine callSH_ok (av := [.ref ox, .int x1, .int x2, .int x3, .int x4, .int x5, .ref oo]) (r := []) X E (w_head h hl Y C0 ho x1 x2 x3 x4 x5) lwL_head liL mlL_158 lsL_head hyL_head ⟨Nat.le_of_ble_eq_true rfl, Nat.le_of_ble_eq_true rfl⟩ ⟨by show k + 5 ≤ 600128; omega, by show n + 30 ≤ 7301098; omega⟩ (Nat.le_of_ble_eq_true rfl) (dk rfl) ?_
  intro v1 h1 W1
  obtain ⟨rfl, W2⟩ := id W1
  have M1 := W1.2.2.1.md ho M0
  iterate 6 refine fst1_ok X (dk rfl) rfl ?_
  refine sld_ok X SC 1 (by decide +kernel) (by omega) (dk rfl) (fun z_ ez => ?_)
  rw [ez.trans ex1.symm]
  clear ez z_
  iterate 4 refine fst1_ok X (dk rfl) rfl ?_
  refine sld_ok X SC 2 (by decide +kernel) (by omega) (dk rfl) (fun z_ ez => ?_)
  rw [ez.trans ex2.symm]
  clear ez z_
  iterate 4 refine fst1_ok X (dk rfl) rfl ?_
  refine sld_ok X SC 3 (by decide +kernel) (by omega) (dk rfl) (fun z_ ez => ?_)
  rw [ez.trans ex3.symm]
  clear ez z_
  iterate 4 refine fst1_ok X (dk rfl) rfl ?_
  refine sld_ok X SC 4 (by decide +kernel) (by omega) (dk rfl) (fun z_ ez => ?_)
  rw [ez.trans ex4.symm]
  clear ez z_
  iterate 4 refine fst1_ok X (dk rfl) rfl ?_
  refine sld_ok X SC 5 (by decide +kernel) (by omega) (dk rfl) (fun z_ ez => ?_)
  rw [ez.trans ex5.symm]
  clear ez z_
  refine callV_ok (ci := 12) (T := TX10) (N := 6) (av := [.int x1, .int x2, .int x3, .int x4, .int x5]) (r := []) X E (RF.c_head _ M1 x1 x2 x3 x4 x5) lkX10_head mlL_161 lmX10_head lvX10_head ⟨Nat.le_of_ble_eq_true rfl, Nat.le_of_ble_eq_true rfl⟩ ⟨by show k + 5 + 5 ≤ 600128; omega, by show n + 30 + 200 ≤ 7301098; omega⟩ rfl M1.obj (Nat.le_of_ble_eq_true rfl) (dk rfl) ?_
  intro v2 h2 P2
  obtain ⟨rfl, P3⟩ := id P2
  refine fst1_ok X (dk rfl) rfl ?_
  refine br_ok X (dk rfl) rfl (show ((337 : Nat) : Int) + 1575 = ((1912 : Nat) : Int) from rfl) (fun _ => ?_) (fun q => absurd trivial q)
  refine WS.widen (k' := k + 9300) (n' := n + 113000) (by show k + 5 + 5 ≤ _; omega) (by show n + 30 + 200 ≤ _; omega) ?_
  exact kk _ _ (LwI.act W1.2.1 W1.2.2.1 M1 P2) _ rfl
set_option maxHeartbeats 8000000 in
theorem law_c2 (X : CX p s m args c D cA B0 7 cL_law RL) (E : EN D cA B0 pa s) (hl : la.stackTraces = false) (SC : Scr b L xs s B0) (hi : i + 6 ≤ L) (Y : LYO BB QQ) (V : LwI BB QQ PP h ox om oo kn) (hk : k + 9300 ≤ 600128 ∧ n + 113000 ≤ 7301098)
    (kk : ∀ (h' : AH) (kn' : Int32), LwI BB QQ PP h' ox om oo kn' → ∀ l' : List (Nat × Value), lsel l' [4, 3, 2, 1, 0] = [(4, vI i), (3, .ref oo), (2, .ref om), (1, .ref ox), (0, .ref b)] → WS p la e room_1 s m args below meth c Q D cA B0 7 1912 l' [] h' (k + 9300) (n + 113000)) : ∀ l : List (Nat × Value), lsel l [4, 3, 2, 1, 0] = [(4, vI i), (3, .ref oo), (2, .ref om), (1, .ref ox), (0, .ref b)] → WS p la e room_1 s m args below meth c Q D cA B0 7 340 l [] h k n := by
  intro l hsl
  have dk : ∀ {pc : Nat} {q : Instr × Nat}, lkd DL_c2 pc = some q → decode cL_law pc = .ok q := lkd_ok DL_c2_ok
  obtain ⟨hk1, hk2⟩ := hk
  obtain ⟨st, C0, ⟨bv, bw, ho⟩, S, A, th, M0⟩ := V
  refine WS.sel [4, 3, 2, 1, 0] hsl ?_
  iterate 5 refine fst1_ok X (dk rfl) rfl ?_
  refine sld_ok X SC 1 (by decide +kernel) (by omega) (dk rfl) (fun x1 ex1 => ?_)
  iterate 4 refine fst1_ok X (dk rfl) rfl ?_
  refine sld_ok X SC 2 (by decide +kernel) (by omega) (dk rfl) (fun x2 ex2 => ?_)
  refine fst1_ok X (dk rfl) rfl ?_
  refine callSH_ok (av := [.ref ox, .int x1, .int x2, .ref oo]) (r := []) X E (w_copy h hl Y C0 ho x1 x2) lwL_copy liL mlL_162 lsL_copy hyL_copy ⟨Nat.le_of_ble_eq_true rfl, Nat.le_of_ble_eq_true rfl⟩ ⟨by show k + 2 ≤ 600128; omega, by show n + 12 ≤ 7301098; omega⟩ (Nat.le_of_ble_eq_true rfl) (dk rfl) ?_
  intro v1 h1 W1
  obtain ⟨rfl, W2⟩ := id W1
  have M1 := W1.2.2.1.md ho M0
  iterate 6 refine fst1_ok X (dk rfl) rfl ?_
  refine sld_ok X SC 1 (by decide +kernel) (by omega) (dk rfl) (fun z_ ez => ?_)
  rw [ez.trans ex1.symm]
  clear ez z_
  iterate 4 refine fst1_ok X (dk rfl) rfl ?_
  refine sld_ok X SC 2 (by decide +kernel) (by omega) (dk rfl) (fun z_ ez => ?_)
  rw [ez.trans ex2.symm]
  clear ez z_
  refine callV_ok (ci := 12) (T := TX10) (N := 6) (av := [.int x1, .int x2]) (r := []) X E (RF.c_copy _ M1 x1 x2) lkX10_copy mlL_164 lmX10_copy lvX10_copy ⟨Nat.le_of_ble_eq_true rfl, Nat.le_of_ble_eq_true rfl⟩ ⟨by show k + 2 + 0 ≤ 600128; omega, by show n + 12 + 0 ≤ 7301098; omega⟩ rfl M1.obj (Nat.le_of_ble_eq_true rfl) (dk rfl) ?_
  intro v2 h2 P2
  obtain ⟨rfl, P3⟩ := id P2
  refine fst1_ok X (dk rfl) rfl ?_
  refine br_ok X (dk rfl) rfl (show ((377 : Nat) : Int) + 1535 = ((1912 : Nat) : Int) from rfl) (fun _ => ?_) (fun q => absurd trivial q)
  refine WS.widen (k' := k + 9300) (n' := n + 113000) (by show k + 2 + 0 ≤ _; omega) (by show n + 12 + 0 ≤ _; omega) ?_
  exact kk _ _ (LwI.act W1.2.1 W1.2.2.1 M1 P2) _ rfl
set_option maxHeartbeats 8000000 in
theorem law_c3 (X : CX p s m args c D cA B0 7 cL_law RL) (E : EN D cA B0 pa s) (hl : la.stackTraces = false) (SC : Scr b L xs s B0) (hi : i + 6 ≤ L) (Y : LYO BB QQ) (V : LwI BB QQ PP h ox om oo kn) (hk : k + 9300 ≤ 600128 ∧ n + 113000 ≤ 7301098)
    (kk : ∀ (h' : AH) (kn' : Int32), LwI BB QQ PP h' ox om oo kn' → ∀ l' : List (Nat × Value), lsel l' [4, 3, 2, 1, 0] = [(4, vI i), (3, .ref oo), (2, .ref om), (1, .ref ox), (0, .ref b)] → WS p la e room_1 s m args below meth c Q D cA B0 7 1912 l' [] h' (k + 9300) (n + 113000)) : ∀ l : List (Nat × Value), lsel l [4, 3, 2, 1, 0] = [(4, vI i), (3, .ref oo), (2, .ref om), (1, .ref ox), (0, .ref b)] → WS p la e room_1 s m args below meth c Q D cA B0 7 380 l [] h k n := by
  intro l hsl
  have dk : ∀ {pc : Nat} {q : Instr × Nat}, lkd DL_c3 pc = some q → decode cL_law pc = .ok q := lkd_ok DL_c3_ok
  obtain ⟨hk1, hk2⟩ := hk
  obtain ⟨st, C0, ⟨bv, bw, ho⟩, S, A, th, M0⟩ := V
  refine WS.sel [4, 3, 2, 1, 0] hsl ?_
  iterate 5 refine fst1_ok X (dk rfl) rfl ?_
  refine sld_ok X SC 1 (by decide +kernel) (by omega) (dk rfl) (fun x1 ex1 => ?_)
  iterate 4 refine fst1_ok X (dk rfl) rfl ?_
  refine sld_ok X SC 2 (by decide +kernel) (by omega) (dk rfl) (fun x2 ex2 => ?_)
  refine fst1_ok X (dk rfl) rfl ?_
  refine callSH_ok (av := [.ref ox, .int x1, .int x2, .ref oo]) (r := []) X E (w_swap h hl Y C0 ho x1 x2) lwL_swap liL mlL_165 lsL_swap hyL_swap ⟨Nat.le_of_ble_eq_true rfl, Nat.le_of_ble_eq_true rfl⟩ ⟨by show k + 2 ≤ 600128; omega, by show n + 12 ≤ 7301098; omega⟩ (Nat.le_of_ble_eq_true rfl) (dk rfl) ?_
  intro v1 h1 W1
  obtain ⟨rfl, W2⟩ := id W1
  have M1 := W1.2.2.1.md ho M0
  iterate 6 refine fst1_ok X (dk rfl) rfl ?_
  refine sld_ok X SC 1 (by decide +kernel) (by omega) (dk rfl) (fun z_ ez => ?_)
  rw [ez.trans ex1.symm]
  clear ez z_
  iterate 4 refine fst1_ok X (dk rfl) rfl ?_
  refine sld_ok X SC 2 (by decide +kernel) (by omega) (dk rfl) (fun z_ ez => ?_)
  rw [ez.trans ex2.symm]
  clear ez z_
  refine callV_ok (ci := 12) (T := TX10) (N := 6) (av := [.int x1, .int x2]) (r := []) X E (RF.c_swap _ M1 x1 x2) lkX10_swap mlL_167 lmX10_swap lvX10_swap ⟨Nat.le_of_ble_eq_true rfl, Nat.le_of_ble_eq_true rfl⟩ ⟨by show k + 2 + 0 ≤ 600128; omega, by show n + 12 + 0 ≤ 7301098; omega⟩ rfl M1.obj (Nat.le_of_ble_eq_true rfl) (dk rfl) ?_
  intro v2 h2 P2
  obtain ⟨rfl, P3⟩ := id P2
  refine fst1_ok X (dk rfl) rfl ?_
  refine br_ok X (dk rfl) rfl (show ((417 : Nat) : Int) + 1495 = ((1912 : Nat) : Int) from rfl) (fun _ => ?_) (fun q => absurd trivial q)
  refine WS.widen (k' := k + 9300) (n' := n + 113000) (by show k + 2 + 0 ≤ _; omega) (by show n + 12 + 0 ≤ _; omega) ?_
  exact kk _ _ (LwI.act W1.2.1 W1.2.2.1 M1 P2) _ rfl
set_option maxHeartbeats 8000000 in
theorem law_c4 (X : CX p s m args c D cA B0 7 cL_law RL) (E : EN D cA B0 pa s) (hl : la.stackTraces = false) (SC : Scr b L xs s B0) (hi : i + 6 ≤ L) (Y : LYO BB QQ) (V : LwI BB QQ PP h ox om oo kn) (hk : k + 9300 ≤ 600128 ∧ n + 113000 ≤ 7301098)
    (kk : ∀ (h' : AH) (kn' : Int32), LwI BB QQ PP h' ox om oo kn' → ∀ l' : List (Nat × Value), lsel l' [4, 3, 2, 1, 0] = [(4, vI i), (3, .ref oo), (2, .ref om), (1, .ref ox), (0, .ref b)] → WS p la e room_1 s m args below meth c Q D cA B0 7 1912 l' [] h' (k + 9300) (n + 113000)) : ∀ l : List (Nat × Value), lsel l [4, 3, 2, 1, 0] = [(4, vI i), (3, .ref oo), (2, .ref om), (1, .ref ox), (0, .ref b)] → WS p la e room_1 s m args below meth c Q D cA B0 7 420 l [] h k n := by
  intro l hsl
  have dk : ∀ {pc : Nat} {q : Instr × Nat}, lkd DL_c4 pc = some q → decode cL_law pc = .ok q := lkd_ok DL_c4_ok
  obtain ⟨hk1, hk2⟩ := hk
  obtain ⟨st, C0, ⟨bv, bw, ho⟩, S, A, th, M0⟩ := V
  refine WS.sel [4, 3, 2, 1, 0] hsl ?_
  iterate 5 refine fst1_ok X (dk rfl) rfl ?_
  refine sld_ok X SC 1 (by decide +kernel) (by omega) (dk rfl) (fun x1 ex1 => ?_)
  iterate 4 refine fst1_ok X (dk rfl) rfl ?_
  refine sld_ok X SC 2 (by decide +kernel) (by omega) (dk rfl) (fun x2 ex2 => ?_)
  iterate 4 refine fst1_ok X (dk rfl) rfl ?_
  refine sld_ok X SC 3 (by decide +kernel) (by omega) (dk rfl) (fun x3 ex3 => ?_)
  refine fst1_ok X (dk rfl) rfl ?_
  refine callSH_ok (av := [.ref ox, .int x1, .int x2, .int x3, .ref oo]) (r := []) X E (w_part h hl Y C0 ho x1 x2 x3) lwL_part liL mlL_168 lsL_part hyL_part ⟨Nat.le_of_ble_eq_true rfl, Nat.le_of_ble_eq_true rfl⟩ ⟨by show k + 2 ≤ 600128; omega, by show n + 12 ≤ 7301098; omega⟩ (Nat.le_of_ble_eq_true rfl) (dk rfl) ?_
  intro v1 h1 W1
  obtain ⟨rfl, W2⟩ := id W1
  have M1 := W1.2.2.1.md ho M0
  iterate 6 refine fst1_ok X (dk rfl) rfl ?_
  refine sld_ok X SC 1 (by decide +kernel) (by omega) (dk rfl) (fun z_ ez => ?_)
  rw [ez.trans ex1.symm]
  clear ez z_
  iterate 4 refine fst1_ok X (dk rfl) rfl ?_
  refine sld_ok X SC 2 (by decide +kernel) (by omega) (dk rfl) (fun z_ ez => ?_)
  rw [ez.trans ex2.symm]
  clear ez z_
  iterate 4 refine fst1_ok X (dk rfl) rfl ?_
  refine sld_ok X SC 3 (by decide +kernel) (by omega) (dk rfl) (fun z_ ez => ?_)
  rw [ez.trans ex3.symm]
  clear ez z_
  refine callV_ok (ci := 12) (T := TX10) (N := 6) (av := [.int x1, .int x2, .int x3]) (r := []) X E (RF.c_part _ M1 x1 x2 x3) lkX10_part mlL_171 lmX10_part lvX10_part ⟨Nat.le_of_ble_eq_true rfl, Nat.le_of_ble_eq_true rfl⟩ ⟨by show k + 2 + 1 ≤ 600128; omega, by show n + 12 + 16 ≤ 7301098; omega⟩ rfl M1.obj (Nat.le_of_ble_eq_true rfl) (dk rfl) ?_
  intro v2 h2 P2
  obtain ⟨rfl, P3⟩ := id P2
  refine fst1_ok X (dk rfl) rfl ?_
  refine br_ok X (dk rfl) rfl (show ((469 : Nat) : Int) + 1443 = ((1912 : Nat) : Int) from rfl) (fun _ => ?_) (fun q => absurd trivial q)
  refine WS.widen (k' := k + 9300) (n' := n + 113000) (by show k + 2 + 1 ≤ _; omega) (by show n + 12 + 16 ≤ _; omega) ?_
  exact kk _ _ (LwI.act W1.2.1 W1.2.2.1 M1 P2) _ rfl
set_option maxHeartbeats 8000000 in
theorem law_c5 (X : CX p s m args c D cA B0 7 cL_law RL) (E : EN D cA B0 pa s) (hl : la.stackTraces = false) (SC : Scr b L xs s B0) (hi : i + 6 ≤ L) (Y : LYO BB QQ) (V : LwI BB QQ PP h ox om oo kn) (hk : k + 9300 ≤ 600128 ∧ n + 113000 ≤ 7301098)
    (kk : ∀ (h' : AH) (kn' : Int32), LwI BB QQ PP h' ox om oo kn' → ∀ l' : List (Nat × Value), lsel l' [4, 3, 2, 1, 0] = [(4, vI i), (3, .ref oo), (2, .ref om), (1, .ref ox), (0, .ref b)] → WS p la e room_1 s m args below meth c Q D cA B0 7 1912 l' [] h' (k + 9300) (n + 113000)) : ∀ l : List (Nat × Value), lsel l [4, 3, 2, 1, 0] = [(4, vI i), (3, .ref oo), (2, .ref om), (1, .ref ox), (0, .ref b)] → WS p la e room_1 s m args below meth c Q D cA B0 7 472 l [] h k n := by
  intro l hsl
  have dk : ∀ {pc : Nat} {q : Instr × Nat}, lkd DL_c5 pc = some q → decode cL_law pc = .ok q := lkd_ok DL_c5_ok
  obtain ⟨hk1, hk2⟩ := hk
  obtain ⟨st, C0, ⟨bv, bw, ho⟩, S, A, th, M0⟩ := V
  refine WS.sel [4, 3, 2, 1, 0] hsl ?_
  iterate 5 refine fst1_ok X (dk rfl) rfl ?_
  refine sld_ok X SC 1 (by decide +kernel) (by omega) (dk rfl) (fun x1 ex1 => ?_)
  iterate 4 refine fst1_ok X (dk rfl) rfl ?_
  refine sld_ok X SC 2 (by decide +kernel) (by omega) (dk rfl) (fun x2 ex2 => ?_)
  iterate 4 refine fst1_ok X (dk rfl) rfl ?_
  refine sld_ok X SC 3 (by decide +kernel) (by omega) (dk rfl) (fun x3 ex3 => ?_)
  refine fst1_ok X (dk rfl) rfl ?_
  refine callSH_ok (av := [.ref ox, .int x1, .int x2, .int x3, .ref oo]) (r := []) X E (w_graft h hl Y C0 ho x1 x2 x3) lwL_graft liL mlL_172 lsL_graft hyL_graft ⟨Nat.le_of_ble_eq_true rfl, Nat.le_of_ble_eq_true rfl⟩ ⟨by show k + 2 ≤ 600128; omega, by show n + 12 ≤ 7301098; omega⟩ (Nat.le_of_ble_eq_true rfl) (dk rfl) ?_
  intro v1 h1 W1
  obtain ⟨rfl, W2⟩ := id W1
  have M1 := W1.2.2.1.md ho M0
  iterate 6 refine fst1_ok X (dk rfl) rfl ?_
  refine sld_ok X SC 1 (by decide +kernel) (by omega) (dk rfl) (fun z_ ez => ?_)
  rw [ez.trans ex1.symm]
  clear ez z_
  iterate 4 refine fst1_ok X (dk rfl) rfl ?_
  refine sld_ok X SC 2 (by decide +kernel) (by omega) (dk rfl) (fun z_ ez => ?_)
  rw [ez.trans ex2.symm]
  clear ez z_
  iterate 4 refine fst1_ok X (dk rfl) rfl ?_
  refine sld_ok X SC 3 (by decide +kernel) (by omega) (dk rfl) (fun z_ ez => ?_)
  rw [ez.trans ex3.symm]
  clear ez z_
  refine callV_ok (ci := 12) (T := TX10) (N := 6) (av := [.int x1, .int x2, .int x3]) (r := []) X E (RF.c_graft _ M1 x1 x2 x3) lkX10_graft mlL_174 lmX10_graft lvX10_graft ⟨Nat.le_of_ble_eq_true rfl, Nat.le_of_ble_eq_true rfl⟩ ⟨by show k + 2 + 4 ≤ 600128; omega, by show n + 12 + 128 ≤ 7301098; omega⟩ rfl M1.obj (Nat.le_of_ble_eq_true rfl) (dk rfl) ?_
  intro v2 h2 P2
  obtain ⟨rfl, P3⟩ := id P2
  refine fst1_ok X (dk rfl) rfl ?_
  refine br_ok X (dk rfl) rfl (show ((521 : Nat) : Int) + 1391 = ((1912 : Nat) : Int) from rfl) (fun _ => ?_) (fun q => absurd trivial q)
  refine WS.widen (k' := k + 9300) (n' := n + 113000) (by show k + 2 + 4 ≤ _; omega) (by show n + 12 + 128 ≤ _; omega) ?_
  exact kk _ _ (LwI.act W1.2.1 W1.2.2.1 M1 P2) _ rfl
set_option maxHeartbeats 8000000 in
theorem law_c6 (X : CX p s m args c D cA B0 7 cL_law RL) (E : EN D cA B0 pa s) (hl : la.stackTraces = false) (SC : Scr b L xs s B0) (hi : i + 6 ≤ L) (Y : LYO BB QQ) (V : LwI BB QQ PP h ox om oo kn) (hk : k + 9300 ≤ 600128 ∧ n + 113000 ≤ 7301098)
    (kk : ∀ (h' : AH) (kn' : Int32), LwI BB QQ PP h' ox om oo kn' → ∀ l' : List (Nat × Value), lsel l' [4, 3, 2, 1, 0] = [(4, vI i), (3, .ref oo), (2, .ref om), (1, .ref ox), (0, .ref b)] → WS p la e room_1 s m args below meth c Q D cA B0 7 1912 l' [] h' (k + 9300) (n + 113000)) : ∀ l : List (Nat × Value), lsel l [4, 3, 2, 1, 0] = [(4, vI i), (3, .ref oo), (2, .ref om), (1, .ref ox), (0, .ref b)] → WS p la e room_1 s m args below meth c Q D cA B0 7 524 l [] h k n := by
  intro l hsl
  have dk : ∀ {pc : Nat} {q : Instr × Nat}, lkd DL_c6 pc = some q → decode cL_law pc = .ok q := lkd_ok DL_c6_ok
  obtain ⟨hk1, hk2⟩ := hk
  obtain ⟨st, C0, ⟨bv, bw, ho⟩, S, A, th, M0⟩ := V
  refine WS.sel [4, 3, 2, 1, 0] hsl ?_
  iterate 5 refine fst1_ok X (dk rfl) rfl ?_
  refine sld_ok X SC 1 (by decide +kernel) (by omega) (dk rfl) (fun x1 ex1 => ?_)
  iterate 4 refine fst1_ok X (dk rfl) rfl ?_
  refine sld_ok X SC 2 (by decide +kernel) (by omega) (dk rfl) (fun x2 ex2 => ?_)
  iterate 4 refine fst1_ok X (dk rfl) rfl ?_
  refine sld_ok X SC 3 (by decide +kernel) (by omega) (dk rfl) (fun x3 ex3 => ?_)
  refine fst1_ok X (dk rfl) rfl ?_
  refine callSH_ok (av := [.ref ox, .int x1, .int x2, .int x3, .ref oo]) (r := []) X E (w_put h hl Y C0 ho x1 x2 x3) lwL_put liL mlL_175 lsL_put hyL_put ⟨Nat.le_of_ble_eq_true rfl, Nat.le_of_ble_eq_true rfl⟩ ⟨by show k + 3 ≤ 600128; omega, by show n + 18 ≤ 7301098; omega⟩ (Nat.le_of_ble_eq_true rfl) (dk rfl) ?_
  intro v1 h1 W1
  obtain ⟨rfl, W2⟩ := id W1
  have M1 := W1.2.2.1.md ho M0
  iterate 6 refine fst1_ok X (dk rfl) rfl ?_
  refine sld_ok X SC 1 (by decide +kernel) (by omega) (dk rfl) (fun z_ ez => ?_)
  rw [ez.trans ex1.symm]
  clear ez z_
  iterate 4 refine fst1_ok X (dk rfl) rfl ?_
  refine sld_ok X SC 2 (by decide +kernel) (by omega) (dk rfl) (fun z_ ez => ?_)
  rw [ez.trans ex2.symm]
  clear ez z_
  iterate 4 refine fst1_ok X (dk rfl) rfl ?_
  refine sld_ok X SC 3 (by decide +kernel) (by omega) (dk rfl) (fun z_ ez => ?_)
  rw [ez.trans ex3.symm]
  clear ez z_
  refine callV_ok (ci := 12) (T := TX10) (N := 6) (av := [.int x1, .int x2, .int x3]) (r := []) X E (RF.c_put _ M1 x1 x2 x3) lkX10_put mlL_177 lmX10_put lvX10_put ⟨Nat.le_of_ble_eq_true rfl, Nat.le_of_ble_eq_true rfl⟩ ⟨by show k + 3 + 30 ≤ 600128; omega, by show n + 18 + 300 ≤ 7301098; omega⟩ rfl M1.obj (Nat.le_of_ble_eq_true rfl) (dk rfl) ?_
  intro v2 h2 P2
  obtain ⟨rfl, P3⟩ := id P2
  refine fst1_ok X (dk rfl) rfl ?_
  refine br_ok X (dk rfl) rfl (show ((573 : Nat) : Int) + 1339 = ((1912 : Nat) : Int) from rfl) (fun _ => ?_) (fun q => absurd trivial q)
  refine WS.widen (k' := k + 9300) (n' := n + 113000) (by show k + 3 + 30 ≤ _; omega) (by show n + 18 + 300 ≤ _; omega) ?_
  exact kk _ _ (LwI.act W1.2.1 W1.2.2.1 M1 P2) _ rfl
set_option maxHeartbeats 8000000 in
theorem law_c7 (X : CX p s m args c D cA B0 7 cL_law RL) (E : EN D cA B0 pa s) (hl : la.stackTraces = false) (SC : Scr b L xs s B0) (hi : i + 6 ≤ L) (Y : LYO BB QQ) (V : LwI BB QQ PP h ox om oo kn) (hk : k + 9300 ≤ 600128 ∧ n + 113000 ≤ 7301098)
    (kk : ∀ (h' : AH) (kn' : Int32), LwI BB QQ PP h' ox om oo kn' → ∀ l' : List (Nat × Value), lsel l' [4, 3, 2, 1, 0] = [(4, vI i), (3, .ref oo), (2, .ref om), (1, .ref ox), (0, .ref b)] → WS p la e room_1 s m args below meth c Q D cA B0 7 1912 l' [] h' (k + 9300) (n + 113000)) : ∀ l : List (Nat × Value), lsel l [4, 3, 2, 1, 0] = [(4, vI i), (3, .ref oo), (2, .ref om), (1, .ref ox), (0, .ref b)] → WS p la e room_1 s m args below meth c Q D cA B0 7 576 l [] h k n := by
  intro l hsl
  have dk : ∀ {pc : Nat} {q : Instr × Nat}, lkd DL_c7 pc = some q → decode cL_law pc = .ok q := lkd_ok DL_c7_ok
  obtain ⟨hk1, hk2⟩ := hk
  obtain ⟨st, C0, ⟨bv, bw, ho⟩, S, A, th, M0⟩ := V
  refine WS.sel [4, 3, 2, 1, 0] hsl ?_
  iterate 5 refine fst1_ok X (dk rfl) rfl ?_
  refine sld_ok X SC 1 (by decide +kernel) (by omega) (dk rfl) (fun x1 ex1 => ?_)
  iterate 4 refine fst1_ok X (dk rfl) rfl ?_
  refine sld_ok X SC 2 (by decide +kernel) (by omega) (dk rfl) (fun x2 ex2 => ?_)
  refine fst1_ok X (dk rfl) rfl ?_
  refine callSH_ok (av := [.ref ox, .int x1, .int x2, .ref oo]) (r := []) X E (w_shift h hl Y C0 ho x1 x2) lwL_shift liL mlL_178 lsL_shift hyL_shift ⟨Nat.le_of_ble_eq_true rfl, Nat.le_of_ble_eq_true rfl⟩ ⟨by show k + 2 ≤ 600128; omega, by show n + 12 ≤ 7301098; omega⟩ (Nat.le_of_ble_eq_true rfl) (dk rfl) ?_
  intro v1 h1 W1
  obtain ⟨rfl, W2⟩ := id W1
  have M1 := W1.2.2.1.md ho M0
  iterate 6 refine fst1_ok X (dk rfl) rfl ?_
  refine sld_ok X SC 1 (by decide +kernel) (by omega) (dk rfl) (fun z_ ez => ?_)
  rw [ez.trans ex1.symm]
  clear ez z_
  iterate 4 refine fst1_ok X (dk rfl) rfl ?_
  refine sld_ok X SC 2 (by decide +kernel) (by omega) (dk rfl) (fun z_ ez => ?_)
  rw [ez.trans ex2.symm]
  clear ez z_
  refine callV_ok (ci := 12) (T := TX10) (N := 6) (av := [.int x1, .int x2]) (r := []) X E (RF.c_shift _ M1 x1 x2) lkX10_shift mlL_180 lmX10_shift lvX10_shift ⟨Nat.le_of_ble_eq_true rfl, Nat.le_of_ble_eq_true rfl⟩ ⟨by show k + 2 + 1 ≤ 600128; omega, by show n + 12 + 16 ≤ 7301098; omega⟩ rfl M1.obj (Nat.le_of_ble_eq_true rfl) (dk rfl) ?_
  intro v2 h2 P2
  obtain ⟨rfl, P3⟩ := id P2
  refine fst1_ok X (dk rfl) rfl ?_
  refine br_ok X (dk rfl) rfl (show ((613 : Nat) : Int) + 1299 = ((1912 : Nat) : Int) from rfl) (fun _ => ?_) (fun q => absurd trivial q)
  refine WS.widen (k' := k + 9300) (n' := n + 113000) (by show k + 2 + 1 ≤ _; omega) (by show n + 12 + 16 ≤ _; omega) ?_
  exact kk _ _ (LwI.act W1.2.1 W1.2.2.1 M1 P2) _ rfl
set_option maxHeartbeats 8000000 in
theorem law_c8 (X : CX p s m args c D cA B0 7 cL_law RL) (E : EN D cA B0 pa s) (hl : la.stackTraces = false) (SC : Scr b L xs s B0) (hi : i + 6 ≤ L) (Y : LYO BB QQ) (V : LwI BB QQ PP h ox om oo kn) (hk : k + 9300 ≤ 600128 ∧ n + 113000 ≤ 7301098)
    (kk : ∀ (h' : AH) (kn' : Int32), LwI BB QQ PP h' ox om oo kn' → ∀ l' : List (Nat × Value), lsel l' [4, 3, 2, 1, 0] = [(4, vI i), (3, .ref oo), (2, .ref om), (1, .ref ox), (0, .ref b)] → WS p la e room_1 s m args below meth c Q D cA B0 7 1912 l' [] h' (k + 9300) (n + 113000)) : ∀ l : List (Nat × Value), lsel l [4, 3, 2, 1, 0] = [(4, vI i), (3, .ref oo), (2, .ref om), (1, .ref ox), (0, .ref b)] → WS p la e room_1 s m args below meth c Q D cA B0 7 616 l [] h k n := by
  intro l hsl
  have dk : ∀ {pc : Nat} {q : Instr × Nat}, lkd DL_c8 pc = some q → decode cL_law pc = .ok q := lkd_ok DL_c8_ok
  obtain ⟨hk1, hk2⟩ := hk
  obtain ⟨st, C0, ⟨bv, bw, ho⟩, S, A, th, M0⟩ := V
  refine WS.sel [4, 3, 2, 1, 0] hsl ?_
  iterate 5 refine fst1_ok X (dk rfl) rfl ?_
  refine sld_ok X SC 1 (by decide +kernel) (by omega) (dk rfl) (fun x1 ex1 => ?_)
  refine fst1_ok X (dk rfl) rfl ?_
  refine callSH_ok (av := [.ref ox, .int x1, .ref oo]) (r := []) X E (w_plain h hl Y C0 ho x1) lwL_plain liL mlL_181 lsL_plain hyL_plain ⟨Nat.le_of_ble_eq_true rfl, Nat.le_of_ble_eq_true rfl⟩ ⟨by show k + 1 ≤ 600128; omega, by show n + 6 ≤ 7301098; omega⟩ (Nat.le_of_ble_eq_true rfl) (dk rfl) ?_
  intro v1 h1 W1
  obtain ⟨rfl, W2⟩ := id W1
  have M1 := W1.2.2.1.md ho M0
  iterate 6 refine fst1_ok X (dk rfl) rfl ?_
  refine sld_ok X SC 1 (by decide +kernel) (by omega) (dk rfl) (fun z_ ez => ?_)
  rw [ez.trans ex1.symm]
  clear ez z_
  refine callV_ok (ci := 12) (T := TX10) (N := 6) (av := [.int x1]) (r := []) X E (RF.c_plain _ M1 x1) lkX10_plain mlL_184 lmX10_plain lvX10_plain ⟨Nat.le_of_ble_eq_true rfl, Nat.le_of_ble_eq_true rfl⟩ ⟨by show k + 1 + 2 ≤ 600128; omega, by show n + 6 + 24 ≤ 7301098; omega⟩ rfl M1.obj (Nat.le_of_ble_eq_true rfl) (dk rfl) ?_
  intro v2 h2 P2
  obtain ⟨rfl, P3⟩ := id P2
  refine fst1_ok X (dk rfl) rfl ?_
  refine br_ok X (dk rfl) rfl (show ((641 : Nat) : Int) + 1271 = ((1912 : Nat) : Int) from rfl) (fun _ => ?_) (fun q => absurd trivial q)
  refine WS.widen (k' := k + 9300) (n' := n + 113000) (by show k + 1 + 2 ≤ _; omega) (by show n + 6 + 24 ≤ _; omega) ?_
  exact kk _ _ (LwI.act W1.2.1 W1.2.2.1 M1 P2) _ rfl
set_option maxHeartbeats 8000000 in
theorem law_c9 (X : CX p s m args c D cA B0 7 cL_law RL) (E : EN D cA B0 pa s) (hl : la.stackTraces = false) (SC : Scr b L xs s B0) (hi : i + 6 ≤ L) (Y : LYO BB QQ) (V : LwI BB QQ PP h ox om oo kn) (hk : k + 9300 ≤ 600128 ∧ n + 113000 ≤ 7301098)
    (kk : ∀ (h' : AH) (kn' : Int32), LwI BB QQ PP h' ox om oo kn' → ∀ l' : List (Nat × Value), lsel l' [4, 3, 2, 1, 0] = [(4, vI i), (3, .ref oo), (2, .ref om), (1, .ref ox), (0, .ref b)] → WS p la e room_1 s m args below meth c Q D cA B0 7 1912 l' [] h' (k + 9300) (n + 113000)) : ∀ l : List (Nat × Value), lsel l [4, 3, 2, 1, 0] = [(4, vI i), (3, .ref oo), (2, .ref om), (1, .ref ox), (0, .ref b)] → WS p la e room_1 s m args below meth c Q D cA B0 7 644 l [] h k n := by
  intro l hsl
  have dk : ∀ {pc : Nat} {q : Instr × Nat}, lkd DL_c9 pc = some q → decode cL_law pc = .ok q := lkd_ok DL_c9_ok
  obtain ⟨hk1, hk2⟩ := hk
  obtain ⟨st, C0, ⟨bv, bw, ho⟩, S, A, th, M0⟩ := V
  refine WS.sel [4, 3, 2, 1, 0] hsl ?_
  iterate 5 refine fst1_ok X (dk rfl) rfl ?_
  refine sld_ok X SC 1 (by decide +kernel) (by omega) (dk rfl) (fun x1 ex1 => ?_)
  iterate 4 refine fst1_ok X (dk rfl) rfl ?_
  refine sld_ok X SC 2 (by decide +kernel) (by omega) (dk rfl) (fun x2 ex2 => ?_)
  iterate 4 refine fst1_ok X (dk rfl) rfl ?_
  refine sld_ok X SC 3 (by decide +kernel) (by omega) (dk rfl) (fun x3 ex3 => ?_)
  refine fst1_ok X (dk rfl) rfl ?_
  refine callSH_ok (av := [.ref ox, .int x1, .int x2, .int x3, .ref oo]) (r := []) X E (w_use h hl Y C0 ho x1 x2 x3) lwL_use liL mlL_185 lsL_use hyL_use ⟨Nat.le_of_ble_eq_true rfl, Nat.le_of_ble_eq_true rfl⟩ ⟨by show k + 3 ≤ 600128; omega, by show n + 18 ≤ 7301098; omega⟩ (Nat.le_of_ble_eq_true rfl) (dk rfl) ?_
  intro v1 h1 W1
  obtain ⟨rfl, W2⟩ := id W1
  have M1 := W1.2.2.1.md ho M0
  iterate 6 refine fst1_ok X (dk rfl) rfl ?_
  refine sld_ok X SC 1 (by decide +kernel) (by omega) (dk rfl) (fun z_ ez => ?_)
  rw [ez.trans ex1.symm]
  clear ez z_
  iterate 4 refine fst1_ok X (dk rfl) rfl ?_
  refine sld_ok X SC 2 (by decide +kernel) (by omega) (dk rfl) (fun z_ ez => ?_)
  rw [ez.trans ex2.symm]
  clear ez z_
  iterate 4 refine fst1_ok X (dk rfl) rfl ?_
  refine sld_ok X SC 3 (by decide +kernel) (by omega) (dk rfl) (fun z_ ez => ?_)
  rw [ez.trans ex3.symm]
  clear ez z_
  refine callV_ok (ci := 12) (T := TX10) (N := 6) (av := [.int x1, .int x2, .int x3]) (r := []) X E (RF.c_use _ M1 x1 x2 x3) lkX10_use mlL_187 lmX10_use lvX10_use ⟨Nat.le_of_ble_eq_true rfl, Nat.le_of_ble_eq_true rfl⟩ ⟨by show k + 3 + 17 ≤ 600128; omega, by show n + 18 + 272 ≤ 7301098; omega⟩ rfl M1.obj (Nat.le_of_ble_eq_true rfl) (dk rfl) ?_
  intro v2 h2 P2
  obtain ⟨rfl, P3⟩ := id P2
  refine fst1_ok X (dk rfl) rfl ?_
  refine br_ok X (dk rfl) rfl (show ((693 : Nat) : Int) + 1219 = ((1912 : Nat) : Int) from rfl) (fun _ => ?_) (fun q => absurd trivial q)
  refine WS.widen (k' := k + 9300) (n' := n + 113000) (by show k + 3 + 17 ≤ _; omega) (by show n + 18 + 272 ≤ _; omega) ?_
  exact kk _ _ (LwI.act W1.2.1 W1.2.2.1 M1 P2) _ rfl
set_option maxHeartbeats 8000000 in
theorem law_c10 (X : CX p s m args c D cA B0 7 cL_law RL) (E : EN D cA B0 pa s) (hl : la.stackTraces = false) (SC : Scr b L xs s B0) (hi : i + 6 ≤ L) (Y : LYO BB QQ) (V : LwI BB QQ PP h ox om oo kn) (hk : k + 9300 ≤ 600128 ∧ n + 113000 ≤ 7301098)
    (kk : ∀ (h' : AH) (kn' : Int32), LwI BB QQ PP h' ox om oo kn' → ∀ l' : List (Nat × Value), lsel l' [4, 3, 2, 1, 0] = [(4, vI i), (3, .ref oo), (2, .ref om), (1, .ref ox), (0, .ref b)] → WS p la e room_1 s m args below meth c Q D cA B0 7 1912 l' [] h' (k + 9300) (n + 113000)) : ∀ l : List (Nat × Value), lsel l [4, 3, 2, 1, 0] = [(4, vI i), (3, .ref oo), (2, .ref om), (1, .ref ox), (0, .ref b)] → WS p la e room_1 s m args below meth c Q D cA B0 7 696 l [] h k n := by
  intro l hsl
  have dk : ∀ {pc : Nat} {q : Instr × Nat}, lkd DL_c10 pc = some q → decode cL_law pc = .ok q := lkd_ok DL_c10_ok
  obtain ⟨hk1, hk2⟩ := hk
  obtain ⟨st, C0, ⟨bv, bw, ho⟩, S, A, th, M0⟩ := V
  refine WS.sel [4, 3, 2, 1, 0] hsl ?_
  iterate 5 refine fst1_ok X (dk rfl) rfl ?_
  refine sld_ok X SC 1 (by decide +kernel) (by omega) (dk rfl) (fun x1 ex1 => ?_)
  iterate 4 refine fst1_ok X (dk rfl) rfl ?_
  refine sld_ok X SC 2 (by decide +kernel) (by omega) (dk rfl) (fun x2 ex2 => ?_)
  iterate 4 refine fst1_ok X (dk rfl) rfl ?_
  refine sld_ok X SC 3 (by decide +kernel) (by omega) (dk rfl) (fun x3 ex3 => ?_)
  refine fst1_ok X (dk rfl) rfl ?_
  refine callSH_ok (av := [.ref ox, .int x1, .int x2, .int x3, .ref oo]) (r := []) X E (w_common h hl Y C0 ho x1 x2 x3) lwL_common liL mlL_188 lsL_common hyL_common ⟨Nat.le_of_ble_eq_true rfl, Nat.le_of_ble_eq_true rfl⟩ ⟨by show k + 3 ≤ 600128; omega, by show n + 18 ≤ 7301098; omega⟩ (Nat.le_of_ble_eq_true rfl) (dk rfl) ?_
  intro v1 h1 W1
  obtain ⟨rfl, W2⟩ := id W1
  have M1 := W1.2.2.1.md ho M0
  iterate 6 refine fst1_ok X (dk rfl) rfl ?_
  refine sld_ok X SC 1 (by decide +kernel) (by omega) (dk rfl) (fun z_ ez => ?_)
  rw [ez.trans ex1.symm]
  clear ez z_
  iterate 4 refine fst1_ok X (dk rfl) rfl ?_
  refine sld_ok X SC 2 (by decide +kernel) (by omega) (dk rfl) (fun z_ ez => ?_)
  rw [ez.trans ex2.symm]
  clear ez z_
  iterate 4 refine fst1_ok X (dk rfl) rfl ?_
  refine sld_ok X SC 3 (by decide +kernel) (by omega) (dk rfl) (fun z_ ez => ?_)
  rw [ez.trans ex3.symm]
  clear ez z_
  refine callV_ok (ci := 12) (T := TX10) (N := 6) (av := [.int x1, .int x2, .int x3]) (r := []) X E (RF.c_common _ M1 x1 x2 x3) lkX10_common mlL_190 lmX10_common lvX10_common ⟨Nat.le_of_ble_eq_true rfl, Nat.le_of_ble_eq_true rfl⟩ ⟨by show k + 3 + 35 ≤ 600128; omega, by show n + 18 + 96 ≤ 7301098; omega⟩ rfl M1.obj (Nat.le_of_ble_eq_true rfl) (dk rfl) ?_
  intro v2 h2 P2
  obtain ⟨rfl, P3⟩ := id P2
  refine fst1_ok X (dk rfl) rfl ?_
  refine br_ok X (dk rfl) rfl (show ((745 : Nat) : Int) + 1167 = ((1912 : Nat) : Int) from rfl) (fun _ => ?_) (fun q => absurd trivial q)
  refine WS.widen (k' := k + 9300) (n' := n + 113000) (by show k + 3 + 35 ≤ _; omega) (by show n + 18 + 96 ≤ _; omega) ?_
  exact kk _ _ (LwI.act W1.2.1 W1.2.2.1 M1 P2) _ rfl
set_option maxHeartbeats 8000000 in
theorem law_c11 (X : CX p s m args c D cA B0 7 cL_law RL) (E : EN D cA B0 pa s) (hl : la.stackTraces = false) (SC : Scr b L xs s B0) (hi : i + 6 ≤ L) (Y : LYO BB QQ) (V : LwI BB QQ PP h ox om oo kn) (hk : k + 9300 ≤ 600128 ∧ n + 113000 ≤ 7301098)
    (kk : ∀ (h' : AH) (kn' : Int32), LwI BB QQ PP h' ox om oo kn' → ∀ l' : List (Nat × Value), lsel l' [4, 3, 2, 1, 0] = [(4, vI i), (3, .ref oo), (2, .ref om), (1, .ref ox), (0, .ref b)] → WS p la e room_1 s m args below meth c Q D cA B0 7 1912 l' [] h' (k + 9300) (n + 113000)) : ∀ l : List (Nat × Value), lsel l [4, 3, 2, 1, 0] = [(4, vI i), (3, .ref oo), (2, .ref om), (1, .ref ox), (0, .ref b)] → WS p la e room_1 s m args below meth c Q D cA B0 7 748 l [] h k n := by
  intro l hsl
  have dk : ∀ {pc : Nat} {q : Instr × Nat}, lkd DL_c11 pc = some q → decode cL_law pc = .ok q := lkd_ok DL_c11_ok
  obtain ⟨hk1, hk2⟩ := hk
  obtain ⟨st, C0, ⟨bv, bw, ho⟩, S, A, th, M0⟩ := V
  refine WS.sel [4, 3, 2, 1, 0] hsl ?_
  iterate 5 refine fst1_ok X (dk rfl) rfl ?_
  refine sld_ok X SC 1 (by decide +kernel) (by omega) (dk rfl) (fun x1 ex1 => ?_)
  refine fst1_ok X (dk rfl) rfl ?_
  refine callSH_ok (av := [.ref ox, .int x1, .ref oo]) (r := []) X E (w_forget h hl Y C0 ho x1) lwL_forget liL mlL_191 lsL_forget hyL_forget ⟨Nat.le_of_ble_eq_true rfl, Nat.le_of_ble_eq_true rfl⟩ ⟨by show k + 1 ≤ 600128; omega, by show n + 6 ≤ 7301098; omega⟩ (Nat.le_of_ble_eq_true rfl) (dk rfl) ?_
  intro v1 h1 W1
  obtain ⟨rfl, W2⟩ := id W1
  have M1 := W1.2.2.1.md ho M0
  iterate 6 refine fst1_ok X (dk rfl) rfl ?_
  refine sld_ok X SC 1 (by decide +kernel) (by omega) (dk rfl) (fun z_ ez => ?_)
  rw [ez.trans ex1.symm]
  clear ez z_
  refine callV_ok (ci := 12) (T := TX10) (N := 6) (av := [.int x1]) (r := []) X E (RF.c_forget _ M1 x1) lkX10_forget mlL_193 lmX10_forget lvX10_forget ⟨Nat.le_of_ble_eq_true rfl, Nat.le_of_ble_eq_true rfl⟩ ⟨by show k + 1 + 17 ≤ 600128; omega, by show n + 6 + 24 ≤ 7301098; omega⟩ rfl M1.obj (Nat.le_of_ble_eq_true rfl) (dk rfl) ?_
  intro v2 h2 P2
  obtain ⟨rfl, P3⟩ := id P2
  refine fst1_ok X (dk rfl) rfl ?_
  refine br_ok X (dk rfl) rfl (show ((773 : Nat) : Int) + 1139 = ((1912 : Nat) : Int) from rfl) (fun _ => ?_) (fun q => absurd trivial q)
  refine WS.widen (k' := k + 9300) (n' := n + 113000) (by show k + 1 + 17 ≤ _; omega) (by show n + 6 + 24 ≤ _; omega) ?_
  exact kk _ _ (LwI.act W1.2.1 W1.2.2.1 M1 P2) _ rfl
set_option maxHeartbeats 8000000 in
theorem law_c12 (X : CX p s m args c D cA B0 7 cL_law RL) (E : EN D cA B0 pa s) (hl : la.stackTraces = false) (SC : Scr b L xs s B0) (hi : i + 6 ≤ L) (Y : LYO BB QQ) (V : LwI BB QQ PP h ox om oo kn) (hk : k + 9300 ≤ 600128 ∧ n + 113000 ≤ 7301098)
    (kk : ∀ (h' : AH) (kn' : Int32), LwI BB QQ PP h' ox om oo kn' → ∀ l' : List (Nat × Value), lsel l' [4, 3, 2, 1, 0] = [(4, vI i), (3, .ref oo), (2, .ref om), (1, .ref ox), (0, .ref b)] → WS p la e room_1 s m args below meth c Q D cA B0 7 1912 l' [] h' (k + 9300) (n + 113000)) : ∀ l : List (Nat × Value), lsel l [4, 3, 2, 1, 0] = [(4, vI i), (3, .ref oo), (2, .ref om), (1, .ref ox), (0, .ref b)] → WS p la e room_1 s m args below meth c Q D cA B0 7 776 l [] h k n := by
  intro l hsl
  have dk : ∀ {pc : Nat} {q : Instr × Nat}, lkd DL_c12 pc = some q → decode cL_law pc = .ok q := lkd_ok DL_c12_ok
  obtain ⟨hk1, hk2⟩ := hk
  obtain ⟨st, C0, ⟨bv, bw, ho⟩, S, A, th, M0⟩ := V
  refine WS.sel [4, 3, 2, 1, 0] hsl ?_
  iterate 5 refine fst1_ok X (dk rfl) rfl ?_
  refine sld_ok X SC 1 (by decide +kernel) (by omega) (dk rfl) (fun x1 ex1 => ?_)
  iterate 4 refine fst1_ok X (dk rfl) rfl ?_
  refine sld_ok X SC 2 (by decide +kernel) (by omega) (dk rfl) (fun x2 ex2 => ?_)
  iterate 4 refine fst1_ok X (dk rfl) rfl ?_
  refine sld_ok X SC 3 (by decide +kernel) (by omega) (dk rfl) (fun x3 ex3 => ?_)
  refine fst1_ok X (dk rfl) rfl ?_
  refine callSH_ok (av := [.ref ox, .int x1, .int x2, .int x3, .ref oo]) (r := []) X E (w_tell h hl Y C0 ho x1 x2 x3) lwL_tell liL mlL_194 lsL_tell hyL_tell ⟨Nat.le_of_ble_eq_true rfl, Nat.le_of_ble_eq_true rfl⟩ ⟨by show k + 3 ≤ 600128; omega, by show n + 18 ≤ 7301098; omega⟩ (Nat.le_of_ble_eq_true rfl) (dk rfl) ?_
  intro v1 h1 W1
  obtain ⟨rfl, W2⟩ := id W1
  have M1 := W1.2.2.1.md ho M0
  iterate 6 refine fst1_ok X (dk rfl) rfl ?_
  refine sld_ok X SC 1 (by decide +kernel) (by omega) (dk rfl) (fun z_ ez => ?_)
  rw [ez.trans ex1.symm]
  clear ez z_
  iterate 4 refine fst1_ok X (dk rfl) rfl ?_
  refine sld_ok X SC 2 (by decide +kernel) (by omega) (dk rfl) (fun z_ ez => ?_)
  rw [ez.trans ex2.symm]
  clear ez z_
  iterate 4 refine fst1_ok X (dk rfl) rfl ?_
  refine sld_ok X SC 3 (by decide +kernel) (by omega) (dk rfl) (fun z_ ez => ?_)
  rw [ez.trans ex3.symm]
  clear ez z_
  refine callV_ok (ci := 12) (T := TX10) (N := 6) (av := [.int x1, .int x2, .int x3]) (r := []) X E (RF.c_tell _ M1 x1 x2 x3) lkX10_tell mlL_196 lmX10_tell lvX10_tell ⟨Nat.le_of_ble_eq_true rfl, Nat.le_of_ble_eq_true rfl⟩ ⟨by show k + 3 + 9 ≤ 600128; omega, by show n + 18 + 16 ≤ 7301098; omega⟩ rfl M1.obj (Nat.le_of_ble_eq_true rfl) (dk rfl) ?_
  intro v2 h2 P2
  obtain ⟨rfl, P3⟩ := id P2
  refine fst1_ok X (dk rfl) rfl ?_
  refine br_ok X (dk rfl) rfl (show ((825 : Nat) : Int) + 1087 = ((1912 : Nat) : Int) from rfl) (fun _ => ?_) (fun q => absurd trivial q)
  refine WS.widen (k' := k + 9300) (n' := n + 113000) (by show k + 3 + 9 ≤ _; omega) (by show n + 18 + 16 ≤ _; omega) ?_
  exact kk _ _ (LwI.act W1.2.1 W1.2.2.1 M1 P2) _ rfl
set_option maxHeartbeats 8000000 in
theorem law_c13 (X : CX p s m args c D cA B0 7 cL_law RL) (E : EN D cA B0 pa s) (hl : la.stackTraces = false) (SC : Scr b L xs s B0) (hi : i + 6 ≤ L) (Y : LYO BB QQ) (V : LwI BB QQ PP h ox om oo kn) (hk : k + 9300 ≤ 600128 ∧ n + 113000 ≤ 7301098)
    (kk : ∀ (h' : AH) (kn' : Int32), LwI BB QQ PP h' ox om oo kn' → ∀ l' : List (Nat × Value), lsel l' [4, 3, 2, 1, 0] = [(4, vI i), (3, .ref oo), (2, .ref om), (1, .ref ox), (0, .ref b)] → WS p la e room_1 s m args below meth c Q D cA B0 7 1912 l' [] h' (k + 9300) (n + 113000)) : ∀ l : List (Nat × Value), lsel l [4, 3, 2, 1, 0] = [(4, vI i), (3, .ref oo), (2, .ref om), (1, .ref ox), (0, .ref b)] → WS p la e room_1 s m args below meth c Q D cA B0 7 828 l [] h k n := by
  intro l hsl
  have dk : ∀ {pc : Nat} {q : Instr × Nat}, lkd DL_c13 pc = some q → decode cL_law pc = .ok q := lkd_ok DL_c13_ok
  obtain ⟨hk1, hk2⟩ := hk
  obtain ⟨st, C0, ⟨bv, bw, ho⟩, S, A, th, M0⟩ := V
  refine WS.sel [4, 3, 2, 1, 0] hsl ?_
  iterate 5 refine fst1_ok X (dk rfl) rfl ?_
  refine sld_ok X SC 1 (by decide +kernel) (by omega) (dk rfl) (fun x1 ex1 => ?_)
  iterate 4 refine fst1_ok X (dk rfl) rfl ?_
  refine sld_ok X SC 2 (by decide +kernel) (by omega) (dk rfl) (fun x2 ex2 => ?_)
  refine fst1_ok X (dk rfl) rfl ?_
  refine callSH_ok (av := [.ref ox, .int x1, .int x2, .ref oo]) (r := []) X E (w_take h hl Y C0 ho x1 x2) lwL_take liL mlL_197 lsL_take hyL_take ⟨Nat.le_of_ble_eq_true rfl, Nat.le_of_ble_eq_true rfl⟩ ⟨by show k + 2 ≤ 600128; omega, by show n + 12 ≤ 7301098; omega⟩ (Nat.le_of_ble_eq_true rfl) (dk rfl) ?_
  intro v1 h1 W1
  obtain ⟨rfl, W2⟩ := id W1
  have M1 := W1.2.2.1.md ho M0
  iterate 6 refine fst1_ok X (dk rfl) rfl ?_
  refine sld_ok X SC 1 (by decide +kernel) (by omega) (dk rfl) (fun z_ ez => ?_)
  rw [ez.trans ex1.symm]
  clear ez z_
  iterate 4 refine fst1_ok X (dk rfl) rfl ?_
  refine sld_ok X SC 2 (by decide +kernel) (by omega) (dk rfl) (fun z_ ez => ?_)
  rw [ez.trans ex2.symm]
  clear ez z_
  refine callV_ok (ci := 12) (T := TX10) (N := 6) (av := [.int x1, .int x2]) (r := []) X E (RF.c_take _ M1 x1 x2) lkX10_take mlL_199 lmX10_take lvX10_take ⟨Nat.le_of_ble_eq_true rfl, Nat.le_of_ble_eq_true rfl⟩ ⟨by show k + 2 + 8 ≤ 600128; omega, by show n + 12 + 8 ≤ 7301098; omega⟩ rfl M1.obj (Nat.le_of_ble_eq_true rfl) (dk rfl) ?_
  intro v2 h2 P2
  obtain ⟨rfl, P3⟩ := id P2
  refine fst1_ok X (dk rfl) rfl ?_
  refine br_ok X (dk rfl) rfl (show ((865 : Nat) : Int) + 1047 = ((1912 : Nat) : Int) from rfl) (fun _ => ?_) (fun q => absurd trivial q)
  refine WS.widen (k' := k + 9300) (n' := n + 113000) (by show k + 2 + 8 ≤ _; omega) (by show n + 12 + 8 ≤ _; omega) ?_
  exact kk _ _ (LwI.act W1.2.1 W1.2.2.1 M1 P2) _ rfl
set_option maxHeartbeats 8000000 in
theorem law_c14 (X : CX p s m args c D cA B0 7 cL_law RL) (E : EN D cA B0 pa s) (hl : la.stackTraces = false) (SC : Scr b L xs s B0) (hi : i + 6 ≤ L) (Y : LYO BB QQ) (V : LwI BB QQ PP h ox om oo kn) (hk : k + 9300 ≤ 600128 ∧ n + 113000 ≤ 7301098)
    (kk : ∀ (h' : AH) (kn' : Int32), LwI BB QQ PP h' ox om oo kn' → ∀ l' : List (Nat × Value), lsel l' [4, 3, 2, 1, 0] = [(4, vI i), (3, .ref oo), (2, .ref om), (1, .ref ox), (0, .ref b)] → WS p la e room_1 s m args below meth c Q D cA B0 7 1912 l' [] h' (k + 9300) (n + 113000)) : ∀ l : List (Nat × Value), lsel l [4, 3, 2, 1, 0] = [(4, vI i), (3, .ref oo), (2, .ref om), (1, .ref ox), (0, .ref b)] → WS p la e room_1 s m args below meth c Q D cA B0 7 868 l [] h k n := by
  intro l hsl
  have dk : ∀ {pc : Nat} {q : Instr × Nat}, lkd DL_c14 pc = some q → decode cL_law pc = .ok q := lkd_ok DL_c14_ok
  obtain ⟨hk1, hk2⟩ := hk
  obtain ⟨st, C0, ⟨bv, bw, ho⟩, S, A, th, M0⟩ := V
  refine WS.sel [4, 3, 2, 1, 0] hsl ?_
  iterate 5 refine fst1_ok X (dk rfl) rfl ?_
  refine sld_ok X SC 1 (by decide +kernel) (by omega) (dk rfl) (fun x1 ex1 => ?_)
  iterate 4 refine fst1_ok X (dk rfl) rfl ?_
  refine sld_ok X SC 2 (by decide +kernel) (by omega) (dk rfl) (fun x2 ex2 => ?_)
  iterate 4 refine fst1_ok X (dk rfl) rfl ?_
  refine sld_ok X SC 3 (by decide +kernel) (by omega) (dk rfl) (fun x3 ex3 => ?_)
  refine fst1_ok X (dk rfl) rfl ?_
  refine callSH_ok (av := [.ref ox, .int x1, .int x2, .int x3, .ref oo]) (r := []) X E (w_behind h hl Y C0 ho x1 x2 x3) lwL_behind liL mlL_200 lsL_behind hyL_behind ⟨Nat.le_of_ble_eq_true rfl, Nat.le_of_ble_eq_true rfl⟩ ⟨by show k + 3 ≤ 600128; omega, by show n + 18 ≤ 7301098; omega⟩ (Nat.le_of_ble_eq_true rfl) (dk rfl) ?_
  intro v1 h1 W1
  obtain ⟨rfl, W2⟩ := id W1
  have M1 := W1.2.2.1.md ho M0
  iterate 6 refine fst1_ok X (dk rfl) rfl ?_
  refine sld_ok X SC 1 (by decide +kernel) (by omega) (dk rfl) (fun z_ ez => ?_)
  rw [ez.trans ex1.symm]
  clear ez z_
  iterate 4 refine fst1_ok X (dk rfl) rfl ?_
  refine sld_ok X SC 2 (by decide +kernel) (by omega) (dk rfl) (fun z_ ez => ?_)
  rw [ez.trans ex2.symm]
  clear ez z_
  iterate 4 refine fst1_ok X (dk rfl) rfl ?_
  refine sld_ok X SC 3 (by decide +kernel) (by omega) (dk rfl) (fun z_ ez => ?_)
  rw [ez.trans ex3.symm]
  clear ez z_
  refine callV_ok (ci := 12) (T := TX10) (N := 6) (av := [.int x1, .int x2, .int x3]) (r := []) X E (RF.c_behind _ M1 x1 x2 x3) lkX10_behind mlL_202 lmX10_behind lvX10_behind ⟨Nat.le_of_ble_eq_true rfl, Nat.le_of_ble_eq_true rfl⟩ ⟨by show k + 3 + 145 ≤ 600128; omega, by show n + 18 + 2192 ≤ 7301098; omega⟩ rfl M1.obj (Nat.le_of_ble_eq_true rfl) (dk rfl) ?_
  intro v2 h2 P2
  obtain ⟨rfl, P3⟩ := id P2
  refine fst1_ok X (dk rfl) rfl ?_
  refine br_ok X (dk rfl) rfl (show ((917 : Nat) : Int) + 995 = ((1912 : Nat) : Int) from rfl) (fun _ => ?_) (fun q => absurd trivial q)
  refine WS.widen (k' := k + 9300) (n' := n + 113000) (by show k + 3 + 145 ≤ _; omega) (by show n + 18 + 2192 ≤ _; omega) ?_
  exact kk _ _ (LwI.act W1.2.1 W1.2.2.1 M1 P2) _ rfl
set_option maxHeartbeats 8000000 in
theorem law_c15 (X : CX p s m args c D cA B0 7 cL_law RL) (E : EN D cA B0 pa s) (hl : la.stackTraces = false) (SC : Scr b L xs s B0) (hi : i + 6 ≤ L) (Y : LYO BB QQ) (V : LwI BB QQ PP h ox om oo kn) (hk : k + 9300 ≤ 600128 ∧ n + 113000 ≤ 7301098)
    (kk : ∀ (h' : AH) (kn' : Int32), LwI BB QQ PP h' ox om oo kn' → ∀ l' : List (Nat × Value), lsel l' [4, 3, 2, 1, 0] = [(4, vI i), (3, .ref oo), (2, .ref om), (1, .ref ox), (0, .ref b)] → WS p la e room_1 s m args below meth c Q D cA B0 7 1912 l' [] h' (k + 9300) (n + 113000)) : ∀ l : List (Nat × Value), lsel l [4, 3, 2, 1, 0] = [(4, vI i), (3, .ref oo), (2, .ref om), (1, .ref ox), (0, .ref b)] → WS p la e room_1 s m args below meth c Q D cA B0 7 920 l [] h k n := by
  intro l hsl
  have dk : ∀ {pc : Nat} {q : Instr × Nat}, lkd DL_c15 pc = some q → decode cL_law pc = .ok q := lkd_ok DL_c15_ok
  obtain ⟨hk1, hk2⟩ := hk
  obtain ⟨st, C0, ⟨bv, bw, ho⟩, S, A, th, M0⟩ := V
  refine WS.sel [4, 3, 2, 1, 0] hsl ?_
  iterate 5 refine fst1_ok X (dk rfl) rfl ?_
  refine sld_ok X SC 1 (by decide +kernel) (by omega) (dk rfl) (fun x1 ex1 => ?_)
  iterate 4 refine fst1_ok X (dk rfl) rfl ?_
  refine sld_ok X SC 2 (by decide +kernel) (by omega) (dk rfl) (fun x2 ex2 => ?_)
  iterate 4 refine fst1_ok X (dk rfl) rfl ?_
  refine sld_ok X SC 3 (by decide +kernel) (by omega) (dk rfl) (fun x3 ex3 => ?_)
  iterate 4 refine fst1_ok X (dk rfl) rfl ?_
  refine sld_ok X SC 4 (by decide +kernel) (by omega) (dk rfl) (fun x4 ex4 => ?_)
  refine fst1_ok X (dk rfl) rfl ?_
  refine callSH_ok (av := [.ref ox, .int x1, .int x2, .int x3, .int x4, .ref oo]) (r := []) X E (w_alike h hl Y C0 ho x1 x2 x3 x4) lwL_alike liL mlL_203 lsL_alike hyL_alike ⟨Nat.le_of_ble_eq_true rfl, Nat.le_of_ble_eq_true rfl⟩ ⟨by show k + 4 ≤ 600128; omega, by show n + 24 ≤ 7301098; omega⟩ (Nat.le_of_ble_eq_true rfl) (dk rfl) ?_
  intro v1 h1 W1
  obtain ⟨rfl, W2⟩ := id W1
  have M1 := W1.2.2.1.md ho M0
  iterate 6 refine fst1_ok X (dk rfl) rfl ?_
  refine sld_ok X SC 1 (by decide +kernel) (by omega) (dk rfl) (fun z_ ez => ?_)
  rw [ez.trans ex1.symm]
  clear ez z_
  iterate 4 refine fst1_ok X (dk rfl) rfl ?_
  refine sld_ok X SC 2 (by decide +kernel) (by omega) (dk rfl) (fun z_ ez => ?_)
  rw [ez.trans ex2.symm]
  clear ez z_
  iterate 4 refine fst1_ok X (dk rfl) rfl ?_
  refine sld_ok X SC 3 (by decide +kernel) (by omega) (dk rfl) (fun z_ ez => ?_)
  rw [ez.trans ex3.symm]
  clear ez z_
  iterate 4 refine fst1_ok X (dk rfl) rfl ?_
  refine sld_ok X SC 4 (by decide +kernel) (by omega) (dk rfl) (fun z_ ez => ?_)
  rw [ez.trans ex4.symm]
  clear ez z_
  refine callV_ok (ci := 12) (T := TX10) (N := 6) (av := [.int x1, .int x2, .int x3, .int x4]) (r := []) X E (RF.c_alike _ M1 x1 x2 x3 x4) lkX10_alike mlL_206 lmX10_alike lvX10_alike ⟨Nat.le_of_ble_eq_true rfl, Nat.le_of_ble_eq_true rfl⟩ ⟨by show k + 4 + 8600 ≤ 600128; omega, by show n + 24 + 102600 ≤ 7301098; omega⟩ rfl M1.obj (Nat.le_of_ble_eq_true rfl) (dk rfl) ?_
  intro v2 h2 P2
  obtain ⟨rfl, P3⟩ := id P2
  refine fst1_ok X (dk rfl) rfl ?_
  refine br_ok X (dk rfl) rfl (show ((981 : Nat) : Int) + 931 = ((1912 : Nat) : Int) from rfl) (fun _ => ?_) (fun q => absurd trivial q)
  refine WS.widen (k' := k + 9300) (n' := n + 113000) (by show k + 4 + 8600 ≤ _; omega) (by show n + 24 + 102600 ≤ _; omega) ?_
  exact kk _ _ (LwI.act W1.2.1 W1.2.2.1 M1 P2) _ rfl
set_option maxHeartbeats 8000000 in
theorem law_c16 (X : CX p s m args c D cA B0 7 cL_law RL) (E : EN D cA B0 pa s) (hl : la.stackTraces = false) (SC : Scr b L xs s B0) (hi : i + 6 ≤ L) (Y : LYO BB QQ) (V : LwI BB QQ PP h ox om oo kn) (hk : k + 9300 ≤ 600128 ∧ n + 113000 ≤ 7301098)
    (kk : ∀ (h' : AH) (kn' : Int32), LwI BB QQ PP h' ox om oo kn' → ∀ l' : List (Nat × Value), lsel l' [4, 3, 2, 1, 0] = [(4, vI i), (3, .ref oo), (2, .ref om), (1, .ref ox), (0, .ref b)] → WS p la e room_1 s m args below meth c Q D cA B0 7 1912 l' [] h' (k + 9300) (n + 113000)) : ∀ l : List (Nat × Value), lsel l [4, 3, 2, 1, 0] = [(4, vI i), (3, .ref oo), (2, .ref om), (1, .ref ox), (0, .ref b)] → WS p la e room_1 s m args below meth c Q D cA B0 7 984 l [] h k n := by
  intro l hsl
  have dk : ∀ {pc : Nat} {q : Instr × Nat}, lkd DL_c16 pc = some q → decode cL_law pc = .ok q := lkd_ok DL_c16_ok
  obtain ⟨hk1, hk2⟩ := hk
  obtain ⟨st, C0, ⟨bv, bw, ho⟩, S, A, th, M0⟩ := V
  refine WS.sel [4, 3, 2, 1, 0] hsl ?_
  iterate 5 refine fst1_ok X (dk rfl) rfl ?_
  refine sld_ok X SC 1 (by decide +kernel) (by omega) (dk rfl) (fun x1 ex1 => ?_)
  iterate 4 refine fst1_ok X (dk rfl) rfl ?_
  refine sld_ok X SC 2 (by decide +kernel) (by omega) (dk rfl) (fun x2 ex2 => ?_)
  iterate 4 refine fst1_ok X (dk rfl) rfl ?_
  refine sld_ok X SC 3 (by decide +kernel) (by omega) (dk rfl) (fun x3 ex3 => ?_)
  refine fst1_ok X (dk rfl) rfl ?_
  refine callSH_ok (av := [.ref ox, .int x1, .int x2, .int x3, .ref oo]) (r := []) X E (w_match h hl Y C0 ho x1 x2 x3) lwL_match liL mlL_207 lsL_match hyL_match ⟨Nat.le_of_ble_eq_true rfl, Nat.le_of_ble_eq_true rfl⟩ ⟨by show k + 3 ≤ 600128; omega, by show n + 18 ≤ 7301098; omega⟩ (Nat.le_of_ble_eq_true rfl) (dk rfl) ?_
  intro v1 h1 W1
  obtain ⟨rfl, W2⟩ := id W1
  have M1 := W1.2.2.1.md ho M0
  iterate 6 refine fst1_ok X (dk rfl) rfl ?_
  refine sld_ok X SC 1 (by decide +kernel) (by omega) (dk rfl) (fun z_ ez => ?_)
  rw [ez.trans ex1.symm]
  clear ez z_
  iterate 4 refine fst1_ok X (dk rfl) rfl ?_
  refine sld_ok X SC 2 (by decide +kernel) (by omega) (dk rfl) (fun z_ ez => ?_)
  rw [ez.trans ex2.symm]
  clear ez z_
  iterate 4 refine fst1_ok X (dk rfl) rfl ?_
  refine sld_ok X SC 3 (by decide +kernel) (by omega) (dk rfl) (fun z_ ez => ?_)
  rw [ez.trans ex3.symm]
  clear ez z_
  refine callV_ok (ci := 12) (T := TX10) (N := 6) (av := [.int x1, .int x2, .int x3]) (r := []) X E (RF.c_match _ M1 x1 x2 x3) lkX10_match mlL_209 lmX10_match lvX10_match ⟨Nat.le_of_ble_eq_true rfl, Nat.le_of_ble_eq_true rfl⟩ ⟨by show k + 3 + 33 ≤ 600128; omega, by show n + 18 + 40 ≤ 7301098; omega⟩ rfl M1.obj (Nat.le_of_ble_eq_true rfl) (dk rfl) ?_
  intro v2 h2 P2
  obtain ⟨rfl, P3⟩ := id P2
  refine fst1_ok X (dk rfl) rfl ?_
  refine br_ok X (dk rfl) rfl (show ((1033 : Nat) : Int) + 879 = ((1912 : Nat) : Int) from rfl) (fun _ => ?_) (fun q => absurd trivial q)
  refine WS.widen (k' := k + 9300) (n' := n + 113000) (by show k + 3 + 33 ≤ _; omega) (by show n + 18 + 40 ≤ _; omega) ?_
  exact kk _ _ (LwI.act W1.2.1 W1.2.2.1 M1 P2) _ rfl
set_option maxHeartbeats 8000000 in
theorem law_c17 (X : CX p s m args c D cA B0 7 cL_law RL) (E : EN D cA B0 pa s) (hl : la.stackTraces = false) (SC : Scr b L xs s B0) (hi : i + 6 ≤ L) (Y : LYO BB QQ) (V : LwI BB QQ PP h ox om oo kn) (hk : k + 9300 ≤ 600128 ∧ n + 113000 ≤ 7301098)
    (kk : ∀ (h' : AH) (kn' : Int32), LwI BB QQ PP h' ox om oo kn' → ∀ l' : List (Nat × Value), lsel l' [4, 3, 2, 1, 0] = [(4, vI i), (3, .ref oo), (2, .ref om), (1, .ref ox), (0, .ref b)] → WS p la e room_1 s m args below meth c Q D cA B0 7 1912 l' [] h' (k + 9300) (n + 113000)) : ∀ l : List (Nat × Value), lsel l [4, 3, 2, 1, 0] = [(4, vI i), (3, .ref oo), (2, .ref om), (1, .ref ox), (0, .ref b)] → WS p la e room_1 s m args below meth c Q D cA B0 7 1036 l [] h k n := by
  intro l hsl
  have dk : ∀ {pc : Nat} {q : Instr × Nat}, lkd DL_c17 pc = some q → decode cL_law pc = .ok q := lkd_ok DL_c17_ok
  obtain ⟨hk1, hk2⟩ := hk
  obtain ⟨st, C0, ⟨bv, bw, ho⟩, S, A, th, M0⟩ := V
  refine WS.sel [4, 3, 2, 1, 0] hsl ?_
  iterate 5 refine fst1_ok X (dk rfl) rfl ?_
  refine sld_ok X SC 1 (by decide +kernel) (by omega) (dk rfl) (fun x1 ex1 => ?_)
  refine fst1_ok X (dk rfl) rfl ?_
  refine callSH_ok (av := [.ref ox, .int x1, .ref oo]) (r := []) X E (w_text h hl Y C0 ho x1) lwL_text liL mlL_210 lsL_text hyL_text ⟨Nat.le_of_ble_eq_true rfl, Nat.le_of_ble_eq_true rfl⟩ ⟨by show k + 157 ≤ 600128; omega, by show n + 46406 ≤ 7301098; omega⟩ (Nat.le_of_ble_eq_true rfl) (dk rfl) ?_
  intro v1 h1 W1
  obtain ⟨z1, rfl⟩ := id W1.1
  have M1 := W1.2.2.md ho M0
  iterate 6 refine fst1_ok X (dk rfl) rfl ?_
  refine sld_ok X SC 1 (by decide +kernel) (by omega) (dk rfl) (fun z_ ez => ?_)
  rw [ez.trans ex1.symm]
  clear ez z_
  refine callV_ok (ci := 12) (T := TX10) (N := 6) (av := [.int x1]) (r := []) X E (RF.c_text _ M1 x1) lkX10_text mlL_212 lmX10_text lvX10_text ⟨Nat.le_of_ble_eq_true rfl, Nat.le_of_ble_eq_true rfl⟩ ⟨by show k + 157 + 128 ≤ 600128; omega, by show n + 46406 + 9600 ≤ 7301098; omega⟩ rfl M1.obj (Nat.le_of_ble_eq_true rfl) (dk rfl) ?_
  rintro _ h2 ⟨⟨u, rfl⟩, P2⟩
  refine fst1_ok X (dk rfl) rfl ?_
  refine br_ok X (dk rfl) rfl (show ((1061 : Nat) : Int) + 851 = ((1912 : Nat) : Int) from rfl) (fun _ => ?_) (fun q => absurd trivial q)
  refine WS.widen (k' := k + 9300) (n' := n + 113000) (by show k + 157 + 128 ≤ _; omega) (by show n + 46406 + 9600 ≤ _; omega) ?_
  exact kk _ _ (LwI.ask W1.2.1 W1.2.2 M1 P2) _ rfl
set_option maxHeartbeats 8000000 in
theorem law_c18 (X : CX p s m args c D cA B0 7 cL_law RL) (E : EN D cA B0 pa s) (hl : la.stackTraces = false) (SC : Scr b L xs s B0) (hi : i + 6 ≤ L) (Y : LYO BB QQ) (V : LwI BB QQ PP h ox om oo kn) (hk : k + 9300 ≤ 600128 ∧ n + 113000 ≤ 7301098)
    (kk : ∀ (h' : AH) (kn' : Int32), LwI BB QQ PP h' ox om oo kn' → ∀ l' : List (Nat × Value), lsel l' [4, 3, 2, 1, 0] = [(4, vI i), (3, .ref oo), (2, .ref om), (1, .ref ox), (0, .ref b)] → WS p la e room_1 s m args below meth c Q D cA B0 7 1912 l' [] h' (k + 9300) (n + 113000)) : ∀ l : List (Nat × Value), lsel l [4, 3, 2, 1, 0] = [(4, vI i), (3, .ref oo), (2, .ref om), (1, .ref ox), (0, .ref b)] → WS p la e room_1 s m args below meth c Q D cA B0 7 1064 l [] h k n := by
  intro l hsl
  have dk : ∀ {pc : Nat} {q : Instr × Nat}, lkd DL_c18 pc = some q → decode cL_law pc = .ok q := lkd_ok DL_c18_ok
  obtain ⟨hk1, hk2⟩ := hk
  obtain ⟨st, C0, ⟨bv, bw, ho⟩, S, A, th, M0⟩ := V
  refine WS.sel [4, 3, 2, 1, 0] hsl ?_
  iterate 5 refine fst1_ok X (dk rfl) rfl ?_
  refine sld_ok X SC 1 (by decide +kernel) (by omega) (dk rfl) (fun x1 ex1 => ?_)
  refine fst1_ok X (dk rfl) rfl ?_
  refine callSH_ok (av := [.ref ox, .int x1, .ref oo]) (r := []) X E (w_size h hl Y C0 ho x1) lwL_size liL mlL_213 lsL_size hyL_size ⟨Nat.le_of_ble_eq_true rfl, Nat.le_of_ble_eq_true rfl⟩ ⟨by show k + 1 ≤ 600128; omega, by show n + 6 ≤ 7301098; omega⟩ (Nat.le_of_ble_eq_true rfl) (dk rfl) ?_
  intro v1 h1 W1
  obtain ⟨rfl, W2⟩ := id W1
  have M1 := W1.2.2.1.md ho M0
  iterate 6 refine fst1_ok X (dk rfl) rfl ?_
  refine sld_ok X SC 1 (by decide +kernel) (by omega) (dk rfl) (fun z_ ez => ?_)
  rw [ez.trans ex1.symm]
  clear ez z_
  refine callV_ok (ci := 12) (T := TX10) (N := 6) (av := [.int x1]) (r := []) X E (RF.c_size _ M1 x1) lkX10_size mlL_215 lmX10_size lvX10_size ⟨Nat.le_of_ble_eq_true rfl, Nat.le_of_ble_eq_true rfl⟩ ⟨by show k + 1 + 0 ≤ 600128; omega, by show n + 6 + 0 ≤ 7301098; omega⟩ rfl M1.obj (Nat.le_of_ble_eq_true rfl) (dk rfl) ?_
  intro v2 h2 P2
  obtain ⟨rfl, P3⟩ := id P2
  refine fst1_ok X (dk rfl) rfl ?_
  refine br_ok X (dk rfl) rfl (show ((1089 : Nat) : Int) + 823 = ((1912 : Nat) : Int) from rfl) (fun _ => ?_) (fun q => absurd trivial q)
  refine WS.widen (k' := k + 9300) (n' := n + 113000) (by show k + 1 + 0 ≤ _; omega) (by show n + 6 + 0 ≤ _; omega) ?_
  exact kk _ _ (LwI.act W1.2.1 W1.2.2.1 M1 P2) _ rfl
set_option maxHeartbeats 8000000 in
theorem law_c19 (X : CX p s m args c D cA B0 7 cL_law RL) (E : EN D cA B0 pa s) (hl : la.stackTraces = false) (SC : Scr b L xs s B0) (hi : i + 6 ≤ L) (Y : LYO BB QQ) (V : LwI BB QQ PP h ox om oo kn) (hk : k + 9300 ≤ 600128 ∧ n + 113000 ≤ 7301098)
    (kk : ∀ (h' : AH) (kn' : Int32), LwI BB QQ PP h' ox om oo kn' → ∀ l' : List (Nat × Value), lsel l' [4, 3, 2, 1, 0] = [(4, vI i), (3, .ref oo), (2, .ref om), (1, .ref ox), (0, .ref b)] → WS p la e room_1 s m args below meth c Q D cA B0 7 1912 l' [] h' (k + 9300) (n + 113000)) : ∀ l : List (Nat × Value), lsel l [4, 3, 2, 1, 0] = [(4, vI i), (3, .ref oo), (2, .ref om), (1, .ref ox), (0, .ref b)] → WS p la e room_1 s m args below meth c Q D cA B0 7 1092 l [] h k n := by
  intro l hsl
  have dk : ∀ {pc : Nat} {q : Instr × Nat}, lkd DL_c19 pc = some q → decode cL_law pc = .ok q := lkd_ok DL_c19_ok
  obtain ⟨hk1, hk2⟩ := hk
  obtain ⟨st, C0, ⟨bv, bw, ho⟩, S, A, th, M0⟩ := V
  refine WS.sel [4, 3, 2, 1, 0] hsl ?_
  iterate 5 refine fst1_ok X (dk rfl) rfl ?_
  refine sld_ok X SC 1 (by decide +kernel) (by omega) (dk rfl) (fun x1 ex1 => ?_)
  refine fst1_ok X (dk rfl) rfl ?_
  refine callSH_ok (av := [.ref ox, .int x1, .ref oo]) (r := []) X E (w_depth h hl Y C0 ho x1) lwL_depth liL mlL_216 lsL_depth hyL_depth ⟨Nat.le_of_ble_eq_true rfl, Nat.le_of_ble_eq_true rfl⟩ ⟨by show k + 1 ≤ 600128; omega, by show n + 6 ≤ 7301098; omega⟩ (Nat.le_of_ble_eq_true rfl) (dk rfl) ?_
  intro v1 h1 W1
  obtain ⟨z1, rfl⟩ := id W1.1
  have M1 := W1.2.2.md ho M0
  iterate 6 refine fst1_ok X (dk rfl) rfl ?_
  refine sld_ok X SC 1 (by decide +kernel) (by omega) (dk rfl) (fun z_ ez => ?_)
  rw [ez.trans ex1.symm]
  clear ez z_
  refine callV_ok (ci := 12) (T := TX10) (N := 6) (av := [.int x1]) (r := []) X E (RF.c_depth _ M1 x1) lkX10_depth mlL_218 lmX10_depth lvX10_depth ⟨Nat.le_of_ble_eq_true rfl, Nat.le_of_ble_eq_true rfl⟩ ⟨by show k + 1 + 0 ≤ 600128; omega, by show n + 6 + 0 ≤ 7301098; omega⟩ rfl M1.obj (Nat.le_of_ble_eq_true rfl) (dk rfl) ?_
  rintro _ h2 ⟨⟨u, rfl⟩, P2⟩
  refine fst1_ok X (dk rfl) rfl ?_
  refine br_ok X (dk rfl) rfl (show ((1117 : Nat) : Int) + 795 = ((1912 : Nat) : Int) from rfl) (fun _ => ?_) (fun q => absurd trivial q)
  refine WS.widen (k' := k + 9300) (n' := n + 113000) (by show k + 1 + 0 ≤ _; omega) (by show n + 6 + 0 ≤ _; omega) ?_
  exact kk _ _ (LwI.ask W1.2.1 W1.2.2 M1 P2) _ rfl
set_option maxHeartbeats 8000000 in
theorem law_c20 (X : CX p s m args c D cA B0 7 cL_law RL) (E : EN D cA B0 pa s) (hl : la.stackTraces = false) (SC : Scr b L xs s B0) (hi : i + 6 ≤ L) (Y : LYO BB QQ) (V : LwI BB QQ PP h ox om oo kn) (hk : k + 9300 ≤ 600128 ∧ n + 113000 ≤ 7301098)
    (kk : ∀ (h' : AH) (kn' : Int32), LwI BB QQ PP h' ox om oo kn' → ∀ l' : List (Nat × Value), lsel l' [4, 3, 2, 1, 0] = [(4, vI i), (3, .ref oo), (2, .ref om), (1, .ref ox), (0, .ref b)] → WS p la e room_1 s m args below meth c Q D cA B0 7 1912 l' [] h' (k + 9300) (n + 113000)) : ∀ l : List (Nat × Value), lsel l [4, 3, 2, 1, 0] = [(4, vI i), (3, .ref oo), (2, .ref om), (1, .ref ox), (0, .ref b)] → WS p la e room_1 s m args below meth c Q D cA B0 7 1120 l [] h k n := by
  intro l hsl
  have dk : ∀ {pc : Nat} {q : Instr × Nat}, lkd DL_c20 pc = some q → decode cL_law pc = .ok q := lkd_ok DL_c20_ok
  obtain ⟨hk1, hk2⟩ := hk
  obtain ⟨st, C0, ⟨bv, bw, ho⟩, S, A, th, M0⟩ := V
  refine WS.sel [4, 3, 2, 1, 0] hsl ?_
  iterate 5 refine fst1_ok X (dk rfl) rfl ?_
  refine sld_ok X SC 1 (by decide +kernel) (by omega) (dk rfl) (fun x1 ex1 => ?_)
  refine fst1_ok X (dk rfl) rfl ?_
  refine callSH_ok (av := [.ref ox, .int x1, .ref oo]) (r := []) X E (w_shared h hl Y C0 ho x1) lwL_shared liL mlL_219 lsL_shared hyL_shared ⟨Nat.le_of_ble_eq_true rfl, Nat.le_of_ble_eq_true rfl⟩ ⟨by show k + 1 ≤ 600128; omega, by show n + 6 ≤ 7301098; omega⟩ (Nat.le_of_ble_eq_true rfl) (dk rfl) ?_
  intro v1 h1 W1
  obtain ⟨z1, rfl⟩ := id W1.1
  have M1 := W1.2.2.md ho M0
  iterate 6 refine fst1_ok X (dk rfl) rfl ?_
  refine sld_ok X SC 1 (by decide +kernel) (by omega) (dk rfl) (fun z_ ez => ?_)
  rw [ez.trans ex1.symm]
  clear ez z_
  refine callV_ok (ci := 12) (T := TX10) (N := 6) (av := [.int x1]) (r := []) X E (RF.c_shared _ M1 x1) lkX10_shared mlL_221 lmX10_shared lvX10_shared ⟨Nat.le_of_ble_eq_true rfl, Nat.le_of_ble_eq_true rfl⟩ ⟨by show k + 1 + 1 ≤ 600128; omega, by show n + 6 + 1 ≤ 7301098; omega⟩ rfl M1.obj (Nat.le_of_ble_eq_true rfl) (dk rfl) ?_
  rintro _ h2 ⟨⟨u, rfl⟩, P2⟩
  refine fst1_ok X (dk rfl) rfl ?_
  refine br_ok X (dk rfl) rfl (show ((1145 : Nat) : Int) + 767 = ((1912 : Nat) : Int) from rfl) (fun _ => ?_) (fun q => absurd trivial q)
  refine WS.widen (k' := k + 9300) (n' := n + 113000) (by show k + 1 + 1 ≤ _; omega) (by show n + 6 + 1 ≤ _; omega) ?_
  exact kk _ _ (LwI.ask W1.2.1 W1.2.2 M1 P2) _ rfl
set_option maxHeartbeats 8000000 in
theorem law_c21 (X : CX p s m args c D cA B0 7 cL_law RL) (E : EN D cA B0 pa s) (hl : la.stackTraces = false) (SC : Scr b L xs s B0) (hi : i + 6 ≤ L) (Y : LYO BB QQ) (V : LwI BB QQ PP h ox om oo kn) (hk : k + 9300 ≤ 600128 ∧ n + 113000 ≤ 7301098)
    (kk : ∀ (h' : AH) (kn' : Int32), LwI BB QQ PP h' ox om oo kn' → ∀ l' : List (Nat × Value), lsel l' [4, 3, 2, 1, 0] = [(4, vI i), (3, .ref oo), (2, .ref om), (1, .ref ox), (0, .ref b)] → WS p la e room_1 s m args below meth c Q D cA B0 7 1912 l' [] h' (k + 9300) (n + 113000)) : ∀ l : List (Nat × Value), lsel l [4, 3, 2, 1, 0] = [(4, vI i), (3, .ref oo), (2, .ref om), (1, .ref ox), (0, .ref b)] → WS p la e room_1 s m args below meth c Q D cA B0 7 1148 l [] h k n := by
  intro l hsl
  have dk : ∀ {pc : Nat} {q : Instr × Nat}, lkd DL_c21 pc = some q → decode cL_law pc = .ok q := lkd_ok DL_c21_ok
  obtain ⟨hk1, hk2⟩ := hk
  obtain ⟨st, C0, ⟨bv, bw, ho⟩, S, A, th, M0⟩ := V
  refine WS.sel [4, 3, 2, 1, 0] hsl ?_
  iterate 5 refine fst1_ok X (dk rfl) rfl ?_
  refine sld_ok X SC 1 (by decide +kernel) (by omega) (dk rfl) (fun x1 ex1 => ?_)
  iterate 4 refine fst1_ok X (dk rfl) rfl ?_
  refine sld_ok X SC 2 (by decide +kernel) (by omega) (dk rfl) (fun x2 ex2 => ?_)
  refine fst1_ok X (dk rfl) rfl ?_
  refine callSH_ok (av := [.ref ox, .int x1, .int x2, .ref oo]) (r := []) X E (w_letter h hl Y C0 ho x1 x2) lwL_letter liL mlL_222 lsL_letter hyL_letter ⟨Nat.le_of_ble_eq_true rfl, Nat.le_of_ble_eq_true rfl⟩ ⟨by show k + 1 ≤ 600128; omega, by show n + 6 ≤ 7301098; omega⟩ (Nat.le_of_ble_eq_true rfl) (dk rfl) ?_
  intro v1 h1 W1
  obtain ⟨z1, rfl⟩ := id W1.1
  have M1 := W1.2.2.md ho M0
  iterate 6 refine fst1_ok X (dk rfl) rfl ?_
  refine sld_ok X SC 1 (by decide +kernel) (by omega) (dk rfl) (fun z_ ez => ?_)
  rw [ez.trans ex1.symm]
  clear ez z_
  iterate 4 refine fst1_ok X (dk rfl) rfl ?_
  refine sld_ok X SC 2 (by decide +kernel) (by omega) (dk rfl) (fun z_ ez => ?_)
  rw [ez.trans ex2.symm]
  clear ez z_
  refine callV_ok (ci := 12) (T := TX10) (N := 6) (av := [.int x1, .int x2]) (r := []) X E (RF.c_letter _ M1 x1 x2) lkX10_letter mlL_224 lmX10_letter lvX10_letter ⟨Nat.le_of_ble_eq_true rfl, Nat.le_of_ble_eq_true rfl⟩ ⟨by show k + 1 + 0 ≤ 600128; omega, by show n + 6 + 0 ≤ 7301098; omega⟩ rfl M1.obj (Nat.le_of_ble_eq_true rfl) (dk rfl) ?_
  rintro _ h2 ⟨⟨u, rfl⟩, P2⟩
  refine fst1_ok X (dk rfl) rfl ?_
  refine br_ok X (dk rfl) rfl (show ((1185 : Nat) : Int) + 727 = ((1912 : Nat) : Int) from rfl) (fun _ => ?_) (fun q => absurd trivial q)
  refine WS.widen (k' := k + 9300) (n' := n + 113000) (by show k + 1 + 0 ≤ _; omega) (by show n + 6 + 0 ≤ _; omega) ?_
  exact kk _ _ (LwI.ask W1.2.1 W1.2.2 M1 P2) _ rfl
set_option maxHeartbeats 8000000 in
theorem law_c22 (X : CX p s m args c D cA B0 7 cL_law RL) (E : EN D cA B0 pa s) (hl : la.stackTraces = false) (SC : Scr b L xs s B0) (hi : i + 6 ≤ L) (Y : LYO BB QQ) (V : LwI BB QQ PP h ox om oo kn) (hk : k + 9300 ≤ 600128 ∧ n + 113000 ≤ 7301098)
    (kk : ∀ (h' : AH) (kn' : Int32), LwI BB QQ PP h' ox om oo kn' → ∀ l' : List (Nat × Value), lsel l' [4, 3, 2, 1, 0] = [(4, vI i), (3, .ref oo), (2, .ref om), (1, .ref ox), (0, .ref b)] → WS p la e room_1 s m args below meth c Q D cA B0 7 1912 l' [] h' (k + 9300) (n + 113000)) : ∀ l : List (Nat × Value), lsel l [4, 3, 2, 1, 0] = [(4, vI i), (3, .ref oo), (2, .ref om), (1, .ref ox), (0, .ref b)] → WS p la e room_1 s m args below meth c Q D cA B0 7 1188 l [] h k n := by
  intro l hsl
  have dk : ∀ {pc : Nat} {q : Instr × Nat}, lkd DL_c22 pc = some q → decode cL_law pc = .ok q := lkd_ok DL_c22_ok
  obtain ⟨hk1, hk2⟩ := hk
  obtain ⟨st, C0, ⟨bv, bw, ho⟩, S, A, th, M0⟩ := V
  refine WS.sel [4, 3, 2, 1, 0] hsl ?_
  iterate 5 refine fst1_ok X (dk rfl) rfl ?_
  refine sld_ok X SC 1 (by decide +kernel) (by omega) (dk rfl) (fun x1 ex1 => ?_)
  iterate 4 refine fst1_ok X (dk rfl) rfl ?_
  refine sld_ok X SC 2 (by decide +kernel) (by omega) (dk rfl) (fun x2 ex2 => ?_)
  refine fst1_ok X (dk rfl) rfl ?_
  refine callSH_ok (av := [.ref ox, .int x1, .int x2, .ref oo]) (r := []) X E (w_sizeAt h hl Y C0 ho x1 x2) lwL_sizeAt liL mlL_225 lsL_sizeAt hyL_sizeAt ⟨Nat.le_of_ble_eq_true rfl, Nat.le_of_ble_eq_true rfl⟩ ⟨by show k + 1 ≤ 600128; omega, by show n + 6 ≤ 7301098; omega⟩ (Nat.le_of_ble_eq_true rfl) (dk rfl) ?_
  intro v1 h1 W1
  obtain ⟨z1, rfl⟩ := id W1.1
  have M1 := W1.2.2.md ho M0
  iterate 6 refine fst1_ok X (dk rfl) rfl ?_
  refine sld_ok X SC 1 (by decide +kernel) (by omega) (dk rfl) (fun z_ ez => ?_)
  rw [ez.trans ex1.symm]
  clear ez z_
  iterate 4 refine fst1_ok X (dk rfl) rfl ?_
  refine sld_ok X SC 2 (by decide +kernel) (by omega) (dk rfl) (fun z_ ez => ?_)
  rw [ez.trans ex2.symm]
  clear ez z_
  refine callV_ok (ci := 12) (T := TX10) (N := 6) (av := [.int x1, .int x2]) (r := []) X E (RF.c_sizeAt _ M1 x1 x2) lkX10_sizeAt mlL_227 lmX10_sizeAt lvX10_sizeAt ⟨Nat.le_of_ble_eq_true rfl, Nat.le_of_ble_eq_true rfl⟩ ⟨by show k + 1 + 0 ≤ 600128; omega, by show n + 6 + 0 ≤ 7301098; omega⟩ rfl M1.obj (Nat.le_of_ble_eq_true rfl) (dk rfl) ?_
  rintro _ h2 ⟨⟨u, rfl⟩, P2⟩
  refine fst1_ok X (dk rfl) rfl ?_
  refine br_ok X (dk rfl) rfl (show ((1225 : Nat) : Int) + 687 = ((1912 : Nat) : Int) from rfl) (fun _ => ?_) (fun q => absurd trivial q)
  refine WS.widen (k' := k + 9300) (n' := n + 113000) (by show k + 1 + 0 ≤ _; omega) (by show n + 6 + 0 ≤ _; omega) ?_
  exact kk _ _ (LwI.ask W1.2.1 W1.2.2 M1 P2) _ rfl
set_option maxHeartbeats 8000000 in
theorem law_c23 (X : CX p s m args c D cA B0 7 cL_law RL) (E : EN D cA B0 pa s) (hl : la.stackTraces = false) (SC : Scr b L xs s B0) (hi : i + 6 ≤ L) (Y : LYO BB QQ) (V : LwI BB QQ PP h ox om oo kn) (hk : k + 9300 ≤ 600128 ∧ n + 113000 ≤ 7301098)
    (kk : ∀ (h' : AH) (kn' : Int32), LwI BB QQ PP h' ox om oo kn' → ∀ l' : List (Nat × Value), lsel l' [4, 3, 2, 1, 0] = [(4, vI i), (3, .ref oo), (2, .ref om), (1, .ref ox), (0, .ref b)] → WS p la e room_1 s m args below meth c Q D cA B0 7 1912 l' [] h' (k + 9300) (n + 113000)) : ∀ l : List (Nat × Value), lsel l [4, 3, 2, 1, 0] = [(4, vI i), (3, .ref oo), (2, .ref om), (1, .ref ox), (0, .ref b)] → WS p la e room_1 s m args below meth c Q D cA B0 7 1228 l [] h k n := by
  intro l hsl
  have dk : ∀ {pc : Nat} {q : Instr × Nat}, lkd DL_c23 pc = some q → decode cL_law pc = .ok q := lkd_ok DL_c23_ok
  obtain ⟨hk1, hk2⟩ := hk
  obtain ⟨st, C0, ⟨bv, bw, ho⟩, S, A, th, M0⟩ := V
  refine WS.sel [4, 3, 2, 1, 0] hsl ?_
  iterate 5 refine fst1_ok X (dk rfl) rfl ?_
  refine sld_ok X SC 1 (by decide +kernel) (by omega) (dk rfl) (fun x1 ex1 => ?_)
  iterate 4 refine fst1_ok X (dk rfl) rfl ?_
  refine sld_ok X SC 2 (by decide +kernel) (by omega) (dk rfl) (fun x2 ex2 => ?_)
  refine fst1_ok X (dk rfl) rfl ?_
  refine callSH_ok (av := [.ref ox, .int x1, .int x2, .ref oo]) (r := []) X E (w_count h hl Y C0 ho x1 x2) lwL_count liL mlL_228 lsL_count hyL_count ⟨Nat.le_of_ble_eq_true rfl, Nat.le_of_ble_eq_true rfl⟩ ⟨by show k + 2 ≤ 600128; omega, by show n + 12 ≤ 7301098; omega⟩ (Nat.le_of_ble_eq_true rfl) (dk rfl) ?_
  intro v1 h1 W1
  obtain ⟨z1, rfl⟩ := id W1.1
  have M1 := W1.2.2.md ho M0
  iterate 6 refine fst1_ok X (dk rfl) rfl ?_
  refine sld_ok X SC 1 (by decide +kernel) (by omega) (dk rfl) (fun z_ ez => ?_)
  rw [ez.trans ex1.symm]
  clear ez z_
  iterate 4 refine fst1_ok X (dk rfl) rfl ?_
  refine sld_ok X SC 2 (by decide +kernel) (by omega) (dk rfl) (fun z_ ez => ?_)
  rw [ez.trans ex2.symm]
  clear ez z_
  refine callV_ok (ci := 12) (T := TX10) (N := 6) (av := [.int x1, .int x2]) (r := []) X E (RF.c_count _ M1 x1 x2) lkX10_count mlL_230 lmX10_count lvX10_count ⟨Nat.le_of_ble_eq_true rfl, Nat.le_of_ble_eq_true rfl⟩ ⟨by show k + 2 + 0 ≤ 600128; omega, by show n + 12 + 0 ≤ 7301098; omega⟩ rfl M1.obj (Nat.le_of_ble_eq_true rfl) (dk rfl) ?_
  rintro _ h2 ⟨⟨u, rfl⟩, P2⟩
  refine fst1_ok X (dk rfl) rfl ?_
  refine br_ok X (dk rfl) rfl (show ((1265 : Nat) : Int) + 647 = ((1912 : Nat) : Int) from rfl) (fun _ => ?_) (fun q => absurd trivial q)
  refine WS.widen (k' := k + 9300) (n' := n + 113000) (by show k + 2 + 0 ≤ _; omega) (by show n + 12 + 0 ≤ _; omega) ?_
  exact kk _ _ (LwI.ask W1.2.1 W1.2.2 M1 P2) _ rfl
set_option maxHeartbeats 8000000 in
theorem law_c24 (X : CX p s m args c D cA B0 7 cL_law RL) (E : EN D cA B0 pa s) (hl : la.stackTraces = false) (SC : Scr b L xs s B0) (hi : i + 6 ≤ L) (Y : LYO BB QQ) (V : LwI BB QQ PP h ox om oo kn) (hk : k + 9300 ≤ 600128 ∧ n + 113000 ≤ 7301098)
    (kk : ∀ (h' : AH) (kn' : Int32), LwI BB QQ PP h' ox om oo kn' → ∀ l' : List (Nat × Value), lsel l' [4, 3, 2, 1, 0] = [(4, vI i), (3, .ref oo), (2, .ref om), (1, .ref ox), (0, .ref b)] → WS p la e room_1 s m args below meth c Q D cA B0 7 1912 l' [] h' (k + 9300) (n + 113000)) : ∀ l : List (Nat × Value), lsel l [4, 3, 2, 1, 0] = [(4, vI i), (3, .ref oo), (2, .ref om), (1, .ref ox), (0, .ref b)] → WS p la e room_1 s m args below meth c Q D cA B0 7 1268 l [] h k n := by
  intro l hsl
  have dk : ∀ {pc : Nat} {q : Instr × Nat}, lkd DL_c24 pc = some q → decode cL_law pc = .ok q := lkd_ok DL_c24_ok
  obtain ⟨hk1, hk2⟩ := hk
  obtain ⟨st, C0, ⟨bv, bw, ho⟩, S, A, th, M0⟩ := V
  refine WS.sel [4, 3, 2, 1, 0] hsl ?_
  iterate 5 refine fst1_ok X (dk rfl) rfl ?_
  refine sld_ok X SC 1 (by decide +kernel) (by omega) (dk rfl) (fun x1 ex1 => ?_)
  refine fst1_ok X (dk rfl) rfl ?_
  refine callSH_ok (av := [.ref ox, .int x1, .ref oo]) (r := []) X E (w_names h hl Y C0 ho x1) lwL_names liL mlL_231 lsL_names hyL_names ⟨Nat.le_of_ble_eq_true rfl, Nat.le_of_ble_eq_true rfl⟩ ⟨by show k + 1 ≤ 600128; omega, by show n + 6 ≤ 7301098; omega⟩ (Nat.le_of_ble_eq_true rfl) (dk rfl) ?_
  intro v1 h1 W1
  obtain ⟨z1, rfl⟩ := id W1.1
  have M1 := W1.2.2.md ho M0
  iterate 6 refine fst1_ok X (dk rfl) rfl ?_
  refine sld_ok X SC 1 (by decide +kernel) (by omega) (dk rfl) (fun z_ ez => ?_)
  rw [ez.trans ex1.symm]
  clear ez z_
  refine callV_ok (ci := 12) (T := TX10) (N := 6) (av := [.int x1]) (r := []) X E (RF.c_names _ M1 x1) lkX10_names mlL_233 lmX10_names lvX10_names ⟨Nat.le_of_ble_eq_true rfl, Nat.le_of_ble_eq_true rfl⟩ ⟨by show k + 1 + 0 ≤ 600128; omega, by show n + 6 + 0 ≤ 7301098; omega⟩ rfl M1.obj (Nat.le_of_ble_eq_true rfl) (dk rfl) ?_
  rintro _ h2 ⟨⟨u, rfl⟩, P2⟩
  refine fst1_ok X (dk rfl) rfl ?_
  refine br_ok X (dk rfl) rfl (show ((1293 : Nat) : Int) + 619 = ((1912 : Nat) : Int) from rfl) (fun _ => ?_) (fun q => absurd trivial q)
  refine WS.widen (k' := k + 9300) (n' := n + 113000) (by show k + 1 + 0 ≤ _; omega) (by show n + 6 + 0 ≤ _; omega) ?_
  exact kk _ _ (LwI.ask W1.2.1 W1.2.2 M1 P2) _ rfl
set_option maxHeartbeats 8000000 in
theorem law_c25 (X : CX p s m args c D cA B0 7 cL_law RL) (E : EN D cA B0 pa s) (hl : la.stackTraces = false) (SC : Scr b L xs s B0) (hi : i + 6 ≤ L) (Y : LYO BB QQ) (V : LwI BB QQ PP h ox om oo kn) (hk : k + 9300 ≤ 600128 ∧ n + 113000 ≤ 7301098)
    (kk : ∀ (h' : AH) (kn' : Int32), LwI BB QQ PP h' ox om oo kn' → ∀ l' : List (Nat × Value), lsel l' [4, 3, 2, 1, 0] = [(4, vI i), (3, .ref oo), (2, .ref om), (1, .ref ox), (0, .ref b)] → WS p la e room_1 s m args below meth c Q D cA B0 7 1912 l' [] h' (k + 9300) (n + 113000)) : ∀ l : List (Nat × Value), lsel l [4, 3, 2, 1, 0] = [(4, vI i), (3, .ref oo), (2, .ref om), (1, .ref ox), (0, .ref b)] → WS p la e room_1 s m args below meth c Q D cA B0 7 1296 l [] h k n := by
  intro l hsl
  have dk : ∀ {pc : Nat} {q : Instr × Nat}, lkd DL_c25 pc = some q → decode cL_law pc = .ok q := lkd_ok DL_c25_ok
  obtain ⟨hk1, hk2⟩ := hk
  obtain ⟨st, C0, ⟨bv, bw, ho⟩, S, A, th, M0⟩ := V
  refine WS.sel [4, 3, 2, 1, 0] hsl ?_
  iterate 5 refine fst1_ok X (dk rfl) rfl ?_
  refine sld_ok X SC 1 (by decide +kernel) (by omega) (dk rfl) (fun x1 ex1 => ?_)
  iterate 4 refine fst1_ok X (dk rfl) rfl ?_
  refine sld_ok X SC 2 (by decide +kernel) (by omega) (dk rfl) (fun x2 ex2 => ?_)
  refine fst1_ok X (dk rfl) rfl ?_
  refine callSH_ok (av := [.ref ox, .int x1, .int x2, .ref oo]) (r := []) X E (w_find h hl Y C0 ho x1 x2) lwL_find liL mlL_234 lsL_find hyL_find ⟨Nat.le_of_ble_eq_true rfl, Nat.le_of_ble_eq_true rfl⟩ ⟨by show k + 2 ≤ 600128; omega, by show n + 12 ≤ 7301098; omega⟩ (Nat.le_of_ble_eq_true rfl) (dk rfl) ?_
  intro v1 h1 W1
  obtain ⟨z1, rfl⟩ := id W1.1
  have M1 := W1.2.2.md ho M0
  iterate 6 refine fst1_ok X (dk rfl) rfl ?_
  refine sld_ok X SC 1 (by decide +kernel) (by omega) (dk rfl) (fun z_ ez => ?_)
  rw [ez.trans ex1.symm]
  clear ez z_
  iterate 4 refine fst1_ok X (dk rfl) rfl ?_
  refine sld_ok X SC 2 (by decide +kernel) (by omega) (dk rfl) (fun z_ ez => ?_)
  rw [ez.trans ex2.symm]
  clear ez z_
  refine callV_ok (ci := 12) (T := TX10) (N := 6) (av := [.int x1, .int x2]) (r := []) X E (RF.c_find _ M1 x1 x2) lkX10_find mlL_236 lmX10_find lvX10_find ⟨Nat.le_of_ble_eq_true rfl, Nat.le_of_ble_eq_true rfl⟩ ⟨by show k + 2 + 0 ≤ 600128; omega, by show n + 12 + 0 ≤ 7301098; omega⟩ rfl M1.obj (Nat.le_of_ble_eq_true rfl) (dk rfl) ?_
  rintro _ h2 ⟨⟨u, rfl⟩, P2⟩
  refine fst1_ok X (dk rfl) rfl ?_
  refine br_ok X (dk rfl) rfl (show ((1333 : Nat) : Int) + 579 = ((1912 : Nat) : Int) from rfl) (fun _ => ?_) (fun q => absurd trivial q)
  refine WS.widen (k' := k + 9300) (n' := n + 113000) (by show k + 2 + 0 ≤ _; omega) (by show n + 12 + 0 ≤ _; omega) ?_
  exact kk _ _ (LwI.ask W1.2.1 W1.2.2 M1 P2) _ rfl
set_option maxHeartbeats 8000000 in
theorem law_c26 (X : CX p s m args c D cA B0 7 cL_law RL) (E : EN D cA B0 pa s) (hl : la.stackTraces = false) (SC : Scr b L xs s B0) (hi : i + 6 ≤ L) (Y : LYO BB QQ) (V : LwI BB QQ PP h ox om oo kn) (hk : k + 9300 ≤ 600128 ∧ n + 113000 ≤ 7301098)
    (kk : ∀ (h' : AH) (kn' : Int32), LwI BB QQ PP h' ox om oo kn' → ∀ l' : List (Nat × Value), lsel l' [4, 3, 2, 1, 0] = [(4, vI i), (3, .ref oo), (2, .ref om), (1, .ref ox), (0, .ref b)] → WS p la e room_1 s m args below meth c Q D cA B0 7 1912 l' [] h' (k + 9300) (n + 113000)) : ∀ l : List (Nat × Value), lsel l [4, 3, 2, 1, 0] = [(4, vI i), (3, .ref oo), (2, .ref om), (1, .ref ox), (0, .ref b)] → WS p la e room_1 s m args below meth c Q D cA B0 7 1336 l [] h k n := by
  intro l hsl
  have dk : ∀ {pc : Nat} {q : Instr × Nat}, lkd DL_c26 pc = some q → decode cL_law pc = .ok q := lkd_ok DL_c26_ok
  obtain ⟨hk1, hk2⟩ := hk
  obtain ⟨st, C0, ⟨bv, bw, ho⟩, S, A, th, M0⟩ := V
  refine WS.sel [4, 3, 2, 1, 0] hsl ?_
  iterate 5 refine fst1_ok X (dk rfl) rfl ?_
  refine sld_ok X SC 1 (by decide +kernel) (by omega) (dk rfl) (fun x1 ex1 => ?_)
  iterate 4 refine fst1_ok X (dk rfl) rfl ?_
  refine sld_ok X SC 2 (by decide +kernel) (by omega) (dk rfl) (fun x2 ex2 => ?_)
  refine fst1_ok X (dk rfl) rfl ?_
  refine callSH_ok (av := [.ref ox, .int x1, .int x2, .ref oo]) (r := []) X E (w_differ h hl Y C0 ho x1 x2) lwL_differ liL mlL_237 lsL_differ hyL_differ ⟨Nat.le_of_ble_eq_true rfl, Nat.le_of_ble_eq_true rfl⟩ ⟨by show k + 2 ≤ 600128; omega, by show n + 12 ≤ 7301098; omega⟩ (Nat.le_of_ble_eq_true rfl) (dk rfl) ?_
  intro v1 h1 W1
  obtain ⟨z1, rfl⟩ := id W1.1
  have M1 := W1.2.2.md ho M0
  iterate 6 refine fst1_ok X (dk rfl) rfl ?_
  refine sld_ok X SC 1 (by decide +kernel) (by omega) (dk rfl) (fun z_ ez => ?_)
  rw [ez.trans ex1.symm]
  clear ez z_
  iterate 4 refine fst1_ok X (dk rfl) rfl ?_
  refine sld_ok X SC 2 (by decide +kernel) (by omega) (dk rfl) (fun z_ ez => ?_)
  rw [ez.trans ex2.symm]
  clear ez z_
  refine callV_ok (ci := 12) (T := TX10) (N := 6) (av := [.int x1, .int x2]) (r := []) X E (RF.c_differ _ M1 x1 x2) lkX10_differ mlL_239 lmX10_differ lvX10_differ ⟨Nat.le_of_ble_eq_true rfl, Nat.le_of_ble_eq_true rfl⟩ ⟨by show k + 2 + 0 ≤ 600128; omega, by show n + 12 + 0 ≤ 7301098; omega⟩ rfl M1.obj (Nat.le_of_ble_eq_true rfl) (dk rfl) ?_
  rintro _ h2 ⟨⟨u, rfl⟩, P2⟩
  refine fst1_ok X (dk rfl) rfl ?_
  refine br_ok X (dk rfl) rfl (show ((1373 : Nat) : Int) + 539 = ((1912 : Nat) : Int) from rfl) (fun _ => ?_) (fun q => absurd trivial q)
  refine WS.widen (k' := k + 9300) (n' := n + 113000) (by show k + 2 + 0 ≤ _; omega) (by show n + 12 + 0 ≤ _; omega) ?_
  exact kk _ _ (LwI.ask W1.2.1 W1.2.2 M1 P2) _ rfl
set_option maxHeartbeats 8000000 in
theorem law_c27 (X : CX p s m args c D cA B0 7 cL_law RL) (E : EN D cA B0 pa s) (hl : la.stackTraces = false) (SC : Scr b L xs s B0) (hi : i + 6 ≤ L) (Y : LYO BB QQ) (V : LwI BB QQ PP h ox om oo kn) (hk : k + 9300 ≤ 600128 ∧ n + 113000 ≤ 7301098)
    (kk : ∀ (h' : AH) (kn' : Int32), LwI BB QQ PP h' ox om oo kn' → ∀ l' : List (Nat × Value), lsel l' [4, 3, 2, 1, 0] = [(4, vI i), (3, .ref oo), (2, .ref om), (1, .ref ox), (0, .ref b)] → WS p la e room_1 s m args below meth c Q D cA B0 7 1912 l' [] h' (k + 9300) (n + 113000)) : ∀ l : List (Nat × Value), lsel l [4, 3, 2, 1, 0] = [(4, vI i), (3, .ref oo), (2, .ref om), (1, .ref ox), (0, .ref b)] → WS p la e room_1 s m args below meth c Q D cA B0 7 1376 l [] h k n := by
  intro l hsl
  have dk : ∀ {pc : Nat} {q : Instr × Nat}, lkd DL_c27 pc = some q → decode cL_law pc = .ok q := lkd_ok DL_c27_ok
  obtain ⟨hk1, hk2⟩ := hk
  obtain ⟨st, C0, ⟨bv, bw, ho⟩, S, A, th, M0⟩ := V
  refine WS.sel [4, 3, 2, 1, 0] hsl ?_
  iterate 5 refine fst1_ok X (dk rfl) rfl ?_
  refine sld_ok X SC 1 (by decide +kernel) (by omega) (dk rfl) (fun x1 ex1 => ?_)
  iterate 4 refine fst1_ok X (dk rfl) rfl ?_
  refine sld_ok X SC 2 (by decide +kernel) (by omega) (dk rfl) (fun x2 ex2 => ?_)
  iterate 4 refine fst1_ok X (dk rfl) rfl ?_
  refine sld_ok X SC 3 (by decide +kernel) (by omega) (dk rfl) (fun x3 ex3 => ?_)
  refine fst1_ok X (dk rfl) rfl ?_
  refine callSH_ok (av := [.ref ox, .int x1, .int x2, .int x3, .ref oo]) (r := []) X E (w_is h hl Y C0 ho x1 x2 x3) lwL_is liL mlL_240 lsL_is hyL_is ⟨Nat.le_of_ble_eq_true rfl, Nat.le_of_ble_eq_true rfl⟩ ⟨by show k + 3 ≤ 600128; omega, by show n + 18 ≤ 7301098; omega⟩ (Nat.le_of_ble_eq_true rfl) (dk rfl) ?_
  intro v1 h1 W1
  obtain ⟨z1, rfl⟩ := id W1.1
  have M1 := W1.2.2.md ho M0
  iterate 6 refine fst1_ok X (dk rfl) rfl ?_
  refine sld_ok X SC 1 (by decide +kernel) (by omega) (dk rfl) (fun z_ ez => ?_)
  rw [ez.trans ex1.symm]
  clear ez z_
  iterate 4 refine fst1_ok X (dk rfl) rfl ?_
  refine sld_ok X SC 2 (by decide +kernel) (by omega) (dk rfl) (fun z_ ez => ?_)
  rw [ez.trans ex2.symm]
  clear ez z_
  iterate 4 refine fst1_ok X (dk rfl) rfl ?_
  refine sld_ok X SC 3 (by decide +kernel) (by omega) (dk rfl) (fun z_ ez => ?_)
  rw [ez.trans ex3.symm]
  clear ez z_
  refine callV_ok (ci := 12) (T := TX10) (N := 6) (av := [.int x1, .int x2, .int x3]) (r := []) X E (RF.c_is _ M1 x1 x2 x3) lkX10_is mlL_242 lmX10_is lvX10_is ⟨Nat.le_of_ble_eq_true rfl, Nat.le_of_ble_eq_true rfl⟩ ⟨by show k + 3 + 25 ≤ 600128; omega, by show n + 18 + 48 ≤ 7301098; omega⟩ rfl M1.obj (Nat.le_of_ble_eq_true rfl) (dk rfl) ?_
  rintro _ h2 ⟨⟨u, rfl⟩, P2⟩
  refine fst1_ok X (dk rfl) rfl ?_
  refine br_ok X (dk rfl) rfl (show ((1425 : Nat) : Int) + 487 = ((1912 : Nat) : Int) from rfl) (fun _ => ?_) (fun q => absurd trivial q)
  refine WS.widen (k' := k + 9300) (n' := n + 113000) (by show k + 3 + 25 ≤ _; omega) (by show n + 18 + 48 ≤ _; omega) ?_
  exact kk _ _ (LwI.ask W1.2.1 W1.2.2 M1 P2) _ rfl
set_option maxHeartbeats 8000000 in
theorem law_c28 (X : CX p s m args c D cA B0 7 cL_law RL) (E : EN D cA B0 pa s) (hl : la.stackTraces = false) (SC : Scr b L xs s B0) (hi : i + 6 ≤ L) (Y : LYO BB QQ) (V : LwI BB QQ PP h ox om oo kn) (hk : k + 9300 ≤ 600128 ∧ n + 113000 ≤ 7301098)
    (kk : ∀ (h' : AH) (kn' : Int32), LwI BB QQ PP h' ox om oo kn' → ∀ l' : List (Nat × Value), lsel l' [4, 3, 2, 1, 0] = [(4, vI i), (3, .ref oo), (2, .ref om), (1, .ref ox), (0, .ref b)] → WS p la e room_1 s m args below meth c Q D cA B0 7 1912 l' [] h' (k + 9300) (n + 113000)) : ∀ l : List (Nat × Value), lsel l [4, 3, 2, 1, 0] = [(4, vI i), (3, .ref oo), (2, .ref om), (1, .ref ox), (0, .ref b)] → WS p la e room_1 s m args below meth c Q D cA B0 7 1428 l [] h k n := by
  intro l hsl
  have dk : ∀ {pc : Nat} {q : Instr × Nat}, lkd DL_c28 pc = some q → decode cL_law pc = .ok q := lkd_ok DL_c28_ok
  obtain ⟨hk1, hk2⟩ := hk
  obtain ⟨st, C0, ⟨bv, bw, ho⟩, S, A, th, M0⟩ := V
  refine WS.sel [4, 3, 2, 1, 0] hsl ?_
  iterate 5 refine fst1_ok X (dk rfl) rfl ?_
  refine sld_ok X SC 1 (by decide +kernel) (by omega) (dk rfl) (fun x1 ex1 => ?_)
  iterate 4 refine fst1_ok X (dk rfl) rfl ?_
  refine sld_ok X SC 2 (by decide +kernel) (by omega) (dk rfl) (fun x2 ex2 => ?_)
  iterate 4 refine fst1_ok X (dk rfl) rfl ?_
  refine sld_ok X SC 3 (by decide +kernel) (by omega) (dk rfl) (fun x3 ex3 => ?_)
  refine fst1_ok X (dk rfl) rfl ?_
  refine callSH_ok (av := [.ref ox, .int x1, .int x2, .int x3, .ref oo]) (r := []) X E (w_can h hl Y C0 ho x1 x2 x3) lwL_can liL mlL_243 lsL_can hyL_can ⟨Nat.le_of_ble_eq_true rfl, Nat.le_of_ble_eq_true rfl⟩ ⟨by show k + 3 ≤ 600128; omega, by show n + 18 ≤ 7301098; omega⟩ (Nat.le_of_ble_eq_true rfl) (dk rfl) ?_
  intro v1 h1 W1
  obtain ⟨z1, rfl⟩ := id W1.1
  have M1 := W1.2.2.md ho M0
  iterate 6 refine fst1_ok X (dk rfl) rfl ?_
  refine sld_ok X SC 1 (by decide +kernel) (by omega) (dk rfl) (fun z_ ez => ?_)
  rw [ez.trans ex1.symm]
  clear ez z_
  iterate 4 refine fst1_ok X (dk rfl) rfl ?_
  refine sld_ok X SC 2 (by decide +kernel) (by omega) (dk rfl) (fun z_ ez => ?_)
  rw [ez.trans ex2.symm]
  clear ez z_
  iterate 4 refine fst1_ok X (dk rfl) rfl ?_
  refine sld_ok X SC 3 (by decide +kernel) (by omega) (dk rfl) (fun z_ ez => ?_)
  rw [ez.trans ex3.symm]
  clear ez z_
  refine callV_ok (ci := 12) (T := TX10) (N := 6) (av := [.int x1, .int x2, .int x3]) (r := []) X E (RF.c_can _ M1 x1 x2 x3) lkX10_can mlL_245 lmX10_can lvX10_can ⟨Nat.le_of_ble_eq_true rfl, Nat.le_of_ble_eq_true rfl⟩ ⟨by show k + 3 + 8422 ≤ 600128; omega, by show n + 18 + 97121 ≤ 7301098; omega⟩ rfl M1.obj (Nat.le_of_ble_eq_true rfl) (dk rfl) ?_
  rintro _ h2 ⟨⟨u, rfl⟩, P2⟩
  refine fst1_ok X (dk rfl) rfl ?_
  refine br_ok X (dk rfl) rfl (show ((1477 : Nat) : Int) + 435 = ((1912 : Nat) : Int) from rfl) (fun _ => ?_) (fun q => absurd trivial q)
  refine WS.widen (k' := k + 9300) (n' := n + 113000) (by show k + 3 + 8422 ≤ _; omega) (by show n + 18 + 97121 ≤ _; omega) ?_
  exact kk _ _ (LwI.ask W1.2.1 W1.2.2 M1 P2) _ rfl
set_option maxHeartbeats 8000000 in
theorem law_c29 (X : CX p s m args c D cA B0 7 cL_law RL) (E : EN D cA B0 pa s) (hl : la.stackTraces = false) (SC : Scr b L xs s B0) (hi : i + 6 ≤ L) (Y : LYO BB QQ) (V : LwI BB QQ PP h ox om oo kn) (hk : k + 9300 ≤ 600128 ∧ n + 113000 ≤ 7301098)
    (kk : ∀ (h' : AH) (kn' : Int32), LwI BB QQ PP h' ox om oo kn' → ∀ l' : List (Nat × Value), lsel l' [4, 3, 2, 1, 0] = [(4, vI i), (3, .ref oo), (2, .ref om), (1, .ref ox), (0, .ref b)] → WS p la e room_1 s m args below meth c Q D cA B0 7 1912 l' [] h' (k + 9300) (n + 113000)) : ∀ l : List (Nat × Value), lsel l [4, 3, 2, 1, 0] = [(4, vI i), (3, .ref oo), (2, .ref om), (1, .ref ox), (0, .ref b)] → WS p la e room_1 s m args below meth c Q D cA B0 7 1480 l [] h k n := by
  intro l hsl
  have dk : ∀ {pc : Nat} {q : Instr × Nat}, lkd DL_c29 pc = some q → decode cL_law pc = .ok q := lkd_ok DL_c29_ok
  obtain ⟨hk1, hk2⟩ := hk
  obtain ⟨st, C0, ⟨bv, bw, ho⟩, S, A, th, M0⟩ := V
  refine WS.sel [4, 3, 2, 1, 0] hsl ?_
  iterate 5 refine fst1_ok X (dk rfl) rfl ?_
  refine sld_ok X SC 1 (by decide +kernel) (by omega) (dk rfl) (fun x1 ex1 => ?_)
  iterate 4 refine fst1_ok X (dk rfl) rfl ?_
  refine sld_ok X SC 2 (by decide +kernel) (by omega) (dk rfl) (fun x2 ex2 => ?_)
  refine fst1_ok X (dk rfl) rfl ?_
  refine callSH_ok (av := [.ref ox, .int x1, .int x2, .ref oo]) (r := []) X E (w_steps h hl Y C0 ho x1 x2) lwL_steps liL mlL_246 lsL_steps hyL_steps ⟨Nat.le_of_ble_eq_true rfl, Nat.le_of_ble_eq_true rfl⟩ ⟨by show k + 2 ≤ 600128; omega, by show n + 12 ≤ 7301098; omega⟩ (Nat.le_of_ble_eq_true rfl) (dk rfl) ?_
  intro v1 h1 W1
  obtain ⟨z1, rfl⟩ := id W1.1
  have M1 := W1.2.2.md ho M0
  iterate 6 refine fst1_ok X (dk rfl) rfl ?_
  refine sld_ok X SC 1 (by decide +kernel) (by omega) (dk rfl) (fun z_ ez => ?_)
  rw [ez.trans ex1.symm]
  clear ez z_
  iterate 4 refine fst1_ok X (dk rfl) rfl ?_
  refine sld_ok X SC 2 (by decide +kernel) (by omega) (dk rfl) (fun z_ ez => ?_)
  rw [ez.trans ex2.symm]
  clear ez z_
  refine callV_ok (ci := 12) (T := TX10) (N := 6) (av := [.int x1, .int x2]) (r := []) X E (RF.c_steps _ M1 x1 x2 goB40) lkX10_steps mlL_248 lmX10_steps lvX10_steps ⟨Nat.le_of_ble_eq_true rfl, Nat.le_of_ble_eq_true rfl⟩ ⟨by show k + 2 + 8422 ≤ 600128; omega, by show n + 12 + 97121 ≤ 7301098; omega⟩ rfl M1.obj (Nat.le_of_ble_eq_true rfl) (dk rfl) ?_
  rintro _ h2 ⟨⟨u, rfl⟩, P2⟩
  refine fst1_ok X (dk rfl) rfl ?_
  refine br_ok X (dk rfl) rfl (show ((1517 : Nat) : Int) + 395 = ((1912 : Nat) : Int) from rfl) (fun _ => ?_) (fun q => absurd trivial q)
  refine WS.widen (k' := k + 9300) (n' := n + 113000) (by show k + 2 + 8422 ≤ _; omega) (by show n + 12 + 97121 ≤ _; omega) ?_
  exact kk _ _ (LwI.ask W1.2.1 W1.2.2 M1 P2) _ rfl
set_option maxHeartbeats 8000000 in
theorem law_c30 (X : CX p s m args c D cA B0 7 cL_law RL) (E : EN D cA B0 pa s) (hl : la.stackTraces = false) (SC : Scr b L xs s B0) (hi : i + 6 ≤ L) (Y : LYO BB QQ) (V : LwI BB QQ PP h ox om oo kn) (hk : k + 9300 ≤ 600128 ∧ n + 113000 ≤ 7301098)
    (kk : ∀ (h' : AH) (kn' : Int32), LwI BB QQ PP h' ox om oo kn' → ∀ l' : List (Nat × Value), lsel l' [4, 3, 2, 1, 0] = [(4, vI i), (3, .ref oo), (2, .ref om), (1, .ref ox), (0, .ref b)] → WS p la e room_1 s m args below meth c Q D cA B0 7 1912 l' [] h' (k + 9300) (n + 113000)) : ∀ l : List (Nat × Value), lsel l [4, 3, 2, 1, 0] = [(4, vI i), (3, .ref oo), (2, .ref om), (1, .ref ox), (0, .ref b)] → WS p la e room_1 s m args below meth c Q D cA B0 7 1520 l [] h k n := by
  intro l hsl
  have dk : ∀ {pc : Nat} {q : Instr × Nat}, lkd DL_c30 pc = some q → decode cL_law pc = .ok q := lkd_ok DL_c30_ok
  obtain ⟨hk1, hk2⟩ := hk
  obtain ⟨st, C0, ⟨bv, bw, ho⟩, S, A, th, M0⟩ := V
  refine WS.sel [4, 3, 2, 1, 0] hsl ?_
  iterate 5 refine fst1_ok X (dk rfl) rfl ?_
  refine sld_ok X SC 1 (by decide +kernel) (by omega) (dk rfl) (fun x1 ex1 => ?_)
  iterate 4 refine fst1_ok X (dk rfl) rfl ?_
  refine sld_ok X SC 2 (by decide +kernel) (by omega) (dk rfl) (fun x2 ex2 => ?_)
  refine fst1_ok X (dk rfl) rfl ?_
  refine callSH_ok (av := [.ref ox, .int x1, .int x2, .ref oo]) (r := []) X E (w_why h hl Y C0 ho x1 x2) lwL_why liL mlL_249 lsL_why hyL_why ⟨Nat.le_of_ble_eq_true rfl, Nat.le_of_ble_eq_true rfl⟩ ⟨by show k + 2 ≤ 600128; omega, by show n + 12 ≤ 7301098; omega⟩ (Nat.le_of_ble_eq_true rfl) (dk rfl) ?_
  intro v1 h1 W1
  obtain ⟨z1, rfl⟩ := id W1.1
  have M1 := W1.2.2.md ho M0
  iterate 6 refine fst1_ok X (dk rfl) rfl ?_
  refine sld_ok X SC 1 (by decide +kernel) (by omega) (dk rfl) (fun z_ ez => ?_)
  rw [ez.trans ex1.symm]
  clear ez z_
  iterate 4 refine fst1_ok X (dk rfl) rfl ?_
  refine sld_ok X SC 2 (by decide +kernel) (by omega) (dk rfl) (fun z_ ez => ?_)
  rw [ez.trans ex2.symm]
  clear ez z_
  refine callV_ok (ci := 12) (T := TX10) (N := 6) (av := [.int x1, .int x2]) (r := []) X E (RF.c_why _ M1 x1 x2 goB40) lkX10_why mlL_251 lmX10_why lvX10_why ⟨Nat.le_of_ble_eq_true rfl, Nat.le_of_ble_eq_true rfl⟩ ⟨by show k + 2 + 8422 ≤ 600128; omega, by show n + 12 + 97121 ≤ 7301098; omega⟩ rfl M1.obj (Nat.le_of_ble_eq_true rfl) (dk rfl) ?_
  rintro _ h2 ⟨⟨u, rfl⟩, P2⟩
  refine fst1_ok X (dk rfl) rfl ?_
  refine br_ok X (dk rfl) rfl (show ((1557 : Nat) : Int) + 355 = ((1912 : Nat) : Int) from rfl) (fun _ => ?_) (fun q => absurd trivial q)
  refine WS.widen (k' := k + 9300) (n' := n + 113000) (by show k + 2 + 8422 ≤ _; omega) (by show n + 12 + 97121 ≤ _; omega) ?_
  exact kk _ _ (LwI.ask W1.2.1 W1.2.2 M1 P2) _ rfl
set_option maxHeartbeats 8000000 in
theorem law_c31 (X : CX p s m args c D cA B0 7 cL_law RL) (E : EN D cA B0 pa s) (hl : la.stackTraces = false) (SC : Scr b L xs s B0) (hi : i + 6 ≤ L) (Y : LYO BB QQ) (V : LwI BB QQ PP h ox om oo kn) (hk : k + 9300 ≤ 600128 ∧ n + 113000 ≤ 7301098)
    (kk : ∀ (h' : AH) (kn' : Int32), LwI BB QQ PP h' ox om oo kn' → ∀ l' : List (Nat × Value), lsel l' [4, 3, 2, 1, 0] = [(4, vI i), (3, .ref oo), (2, .ref om), (1, .ref ox), (0, .ref b)] → WS p la e room_1 s m args below meth c Q D cA B0 7 1912 l' [] h' (k + 9300) (n + 113000)) : ∀ l : List (Nat × Value), lsel l [4, 3, 2, 1, 0] = [(4, vI i), (3, .ref oo), (2, .ref om), (1, .ref ox), (0, .ref b)] → WS p la e room_1 s m args below meth c Q D cA B0 7 1560 l [] h k n := by
  intro l hsl
  have dk : ∀ {pc : Nat} {q : Instr × Nat}, lkd DL_c31 pc = some q → decode cL_law pc = .ok q := lkd_ok DL_c31_ok
  obtain ⟨hk1, hk2⟩ := hk
  obtain ⟨st, C0, ⟨bv, bw, ho⟩, S, A, th, M0⟩ := V
  refine WS.sel [4, 3, 2, 1, 0] hsl ?_
  iterate 5 refine fst1_ok X (dk rfl) rfl ?_
  refine sld_ok X SC 1 (by decide +kernel) (by omega) (dk rfl) (fun x1 ex1 => ?_)
  iterate 4 refine fst1_ok X (dk rfl) rfl ?_
  refine sld_ok X SC 2 (by decide +kernel) (by omega) (dk rfl) (fun x2 ex2 => ?_)
  refine fst1_ok X (dk rfl) rfl ?_
  refine callSH_ok (av := [.ref ox, .int x1, .int x2, .ref oo]) (r := []) X E (w_told h hl Y C0 ho x1 x2) lwL_told liL mlL_252 lsL_told hyL_told ⟨Nat.le_of_ble_eq_true rfl, Nat.le_of_ble_eq_true rfl⟩ ⟨by show k + 158 ≤ 600128; omega, by show n + 46412 ≤ 7301098; omega⟩ (Nat.le_of_ble_eq_true rfl) (dk rfl) ?_
  intro v1 h1 W1
  obtain ⟨z1, rfl⟩ := id W1.1
  have M1 := W1.2.2.md ho M0
  iterate 6 refine fst1_ok X (dk rfl) rfl ?_
  refine sld_ok X SC 1 (by decide +kernel) (by omega) (dk rfl) (fun z_ ez => ?_)
  rw [ez.trans ex1.symm]
  clear ez z_
  iterate 4 refine fst1_ok X (dk rfl) rfl ?_
  refine sld_ok X SC 2 (by decide +kernel) (by omega) (dk rfl) (fun z_ ez => ?_)
  rw [ez.trans ex2.symm]
  clear ez z_
  refine callV_ok (ci := 12) (T := TX10) (N := 6) (av := [.int x1, .int x2]) (r := []) X E (RF.c_told _ M1 x1 x2) lkX10_told mlL_254 lmX10_told lvX10_told ⟨Nat.le_of_ble_eq_true rfl, Nat.le_of_ble_eq_true rfl⟩ ⟨by show k + 158 + 128 ≤ 600128; omega, by show n + 46412 + 9600 ≤ 7301098; omega⟩ rfl M1.obj (Nat.le_of_ble_eq_true rfl) (dk rfl) ?_
  rintro _ h2 ⟨⟨u, rfl⟩, P2⟩
  refine fst1_ok X (dk rfl) rfl ?_
  refine br_ok X (dk rfl) rfl (show ((1597 : Nat) : Int) + 315 = ((1912 : Nat) : Int) from rfl) (fun _ => ?_) (fun q => absurd trivial q)
  refine WS.widen (k' := k + 9300) (n' := n + 113000) (by show k + 158 + 128 ≤ _; omega) (by show n + 46412 + 9600 ≤ _; omega) ?_
  exact kk _ _ (LwI.ask W1.2.1 W1.2.2 M1 P2) _ rfl
set_option maxHeartbeats 8000000 in
theorem law_c32 (X : CX p s m args c D cA B0 7 cL_law RL) (E : EN D cA B0 pa s) (hl : la.stackTraces = false) (SC : Scr b L xs s B0) (hi : i + 6 ≤ L) (Y : LYO BB QQ) (V : LwI BB QQ PP h ox om oo kn) (hk : k + 9300 ≤ 600128 ∧ n + 113000 ≤ 7301098)
    (kk : ∀ (h' : AH) (kn' : Int32), LwI BB QQ PP h' ox om oo kn' → ∀ l' : List (Nat × Value), lsel l' [4, 3, 2, 1, 0] = [(4, vI i), (3, .ref oo), (2, .ref om), (1, .ref ox), (0, .ref b)] → WS p la e room_1 s m args below meth c Q D cA B0 7 1912 l' [] h' (k + 9300) (n + 113000)) : ∀ l : List (Nat × Value), lsel l [4, 3, 2, 1, 0] = [(4, vI i), (3, .ref oo), (2, .ref om), (1, .ref ox), (0, .ref b)] → WS p la e room_1 s m args below meth c Q D cA B0 7 1600 l [] h k n := by
  intro l hsl
  have dk : ∀ {pc : Nat} {q : Instr × Nat}, lkd DL_c32 pc = some q → decode cL_law pc = .ok q := lkd_ok DL_c32_ok
  obtain ⟨hk1, hk2⟩ := hk
  obtain ⟨st, C0, ⟨bv, bw, ho⟩, S, A, th, M0⟩ := V
  refine WS.sel [4, 3, 2, 1, 0] hsl ?_
  iterate 5 refine fst1_ok X (dk rfl) rfl ?_
  refine sld_ok X SC 1 (by decide +kernel) (by omega) (dk rfl) (fun x1 ex1 => ?_)
  refine fst1_ok X (dk rfl) rfl ?_
  refine callSH_ok (av := [.ref ox, .int x1, .ref oo]) (r := []) X E (w_moved h hl Y C0 ho x1) lwL_moved liL mlL_255 lsL_moved hyL_moved ⟨Nat.le_of_ble_eq_true rfl, Nat.le_of_ble_eq_true rfl⟩ ⟨by show k + 1 ≤ 600128; omega, by show n + 6 ≤ 7301098; omega⟩ (Nat.le_of_ble_eq_true rfl) (dk rfl) ?_
  intro v1 h1 W1
  obtain ⟨z1, rfl⟩ := id W1.1
  have M1 := W1.2.2.md ho M0
  iterate 6 refine fst1_ok X (dk rfl) rfl ?_
  refine sld_ok X SC 1 (by decide +kernel) (by omega) (dk rfl) (fun z_ ez => ?_)
  rw [ez.trans ex1.symm]
  clear ez z_
  refine callV_ok (ci := 12) (T := TX10) (N := 6) (av := [.int x1]) (r := []) X E (RF.c_moved _ M1 x1) lkX10_moved mlL_257 lmX10_moved lvX10_moved ⟨Nat.le_of_ble_eq_true rfl, Nat.le_of_ble_eq_true rfl⟩ ⟨by show k + 1 + 8 ≤ 600128; omega, by show n + 6 + 8 ≤ 7301098; omega⟩ rfl M1.obj (Nat.le_of_ble_eq_true rfl) (dk rfl) ?_
  rintro _ h2 ⟨⟨u, rfl⟩, P2⟩
  refine fst1_ok X (dk rfl) rfl ?_
  refine br_ok X (dk rfl) rfl (show ((1625 : Nat) : Int) + 287 = ((1912 : Nat) : Int) from rfl) (fun _ => ?_) (fun q => absurd trivial q)
  refine WS.widen (k' := k + 9300) (n' := n + 113000) (by show k + 1 + 8 ≤ _; omega) (by show n + 6 + 8 ≤ _; omega) ?_
  exact kk _ _ (LwI.ask W1.2.1 W1.2.2 M1 P2) _ rfl
set_option maxHeartbeats 8000000 in
theorem law_c33 (X : CX p s m args c D cA B0 7 cL_law RL) (E : EN D cA B0 pa s) (hl : la.stackTraces = false) (SC : Scr b L xs s B0) (hi : i + 6 ≤ L) (Y : LYO BB QQ) (V : LwI BB QQ PP h ox om oo kn) (hk : k + 9300 ≤ 600128 ∧ n + 113000 ≤ 7301098)
    (kk : ∀ (h' : AH) (kn' : Int32), LwI BB QQ PP h' ox om oo kn' → ∀ l' : List (Nat × Value), lsel l' [4, 3, 2, 1, 0] = [(4, vI i), (3, .ref oo), (2, .ref om), (1, .ref ox), (0, .ref b)] → WS p la e room_1 s m args below meth c Q D cA B0 7 1912 l' [] h' (k + 9300) (n + 113000)) : ∀ l : List (Nat × Value), lsel l [4, 3, 2, 1, 0] = [(4, vI i), (3, .ref oo), (2, .ref om), (1, .ref ox), (0, .ref b)] → WS p la e room_1 s m args below meth c Q D cA B0 7 1628 l [] h k n := by
  intro l hsl
  have dk : ∀ {pc : Nat} {q : Instr × Nat}, lkd DL_c33 pc = some q → decode cL_law pc = .ok q := lkd_ok DL_c33_ok
  obtain ⟨hk1, hk2⟩ := hk
  obtain ⟨st, C0, ⟨bv, bw, ho⟩, S, A, th, M0⟩ := V
  refine WS.sel [4, 3, 2, 1, 0] hsl ?_
  iterate 5 refine fst1_ok X (dk rfl) rfl ?_
  refine sld_ok X SC 1 (by decide +kernel) (by omega) (dk rfl) (fun x1 ex1 => ?_)
  iterate 4 refine fst1_ok X (dk rfl) rfl ?_
  refine sld_ok X SC 2 (by decide +kernel) (by omega) (dk rfl) (fun x2 ex2 => ?_)
  iterate 4 refine fst1_ok X (dk rfl) rfl ?_
  refine sld_ok X SC 3 (by decide +kernel) (by omega) (dk rfl) (fun x3 ex3 => ?_)
  refine fst1_ok X (dk rfl) rfl ?_
  refine callSH_ok (av := [.ref ox, .int x1, .int x2, .int x3, .ref oo]) (r := []) X E (w_makes h hl Y C0 ho x1 x2 x3) lwL_makes liL mlL_258 lsL_makes hyL_makes ⟨Nat.le_of_ble_eq_true rfl, Nat.le_of_ble_eq_true rfl⟩ ⟨by show k + 3 ≤ 600128; omega, by show n + 18 ≤ 7301098; omega⟩ (Nat.le_of_ble_eq_true rfl) (dk rfl) ?_
  intro v1 h1 W1
  obtain ⟨z1, rfl⟩ := id W1.1
  have M1 := W1.2.2.md ho M0
  iterate 6 refine fst1_ok X (dk rfl) rfl ?_
  refine sld_ok X SC 1 (by decide +kernel) (by omega) (dk rfl) (fun z_ ez => ?_)
  rw [ez.trans ex1.symm]
  clear ez z_
  iterate 4 refine fst1_ok X (dk rfl) rfl ?_
  refine sld_ok X SC 2 (by decide +kernel) (by omega) (dk rfl) (fun z_ ez => ?_)
  rw [ez.trans ex2.symm]
  clear ez z_
  iterate 4 refine fst1_ok X (dk rfl) rfl ?_
  refine sld_ok X SC 3 (by decide +kernel) (by omega) (dk rfl) (fun z_ ez => ?_)
  rw [ez.trans ex3.symm]
  clear ez z_
  refine callV_ok (ci := 12) (T := TX10) (N := 6) (av := [.int x1, .int x2, .int x3]) (r := []) X E (RF.c_makes _ M1 x1 x2 x3) lkX10_makes mlL_260 lmX10_makes lvX10_makes ⟨Nat.le_of_ble_eq_true rfl, Nat.le_of_ble_eq_true rfl⟩ ⟨by show k + 3 + 34 ≤ 600128; omega, by show n + 18 + 544 ≤ 7301098; omega⟩ rfl M1.obj (Nat.le_of_ble_eq_true rfl) (dk rfl) ?_
  rintro _ h2 ⟨⟨u, rfl⟩, P2⟩
  refine fst1_ok X (dk rfl) rfl ?_
  refine br_ok X (dk rfl) rfl (show ((1677 : Nat) : Int) + 235 = ((1912 : Nat) : Int) from rfl) (fun _ => ?_) (fun q => absurd trivial q)
  refine WS.widen (k' := k + 9300) (n' := n + 113000) (by show k + 3 + 34 ≤ _; omega) (by show n + 18 + 544 ≤ _; omega) ?_
  exact kk _ _ (LwI.ask W1.2.1 W1.2.2 M1 P2) _ rfl
set_option maxHeartbeats 8000000 in
theorem law_c34 (X : CX p s m args c D cA B0 7 cL_law RL) (E : EN D cA B0 pa s) (hl : la.stackTraces = false) (SC : Scr b L xs s B0) (hi : i + 6 ≤ L) (Y : LYO BB QQ) (V : LwI BB QQ PP h ox om oo kn) (hk : k + 9300 ≤ 600128 ∧ n + 113000 ≤ 7301098)
    (kk : ∀ (h' : AH) (kn' : Int32), LwI BB QQ PP h' ox om oo kn' → ∀ l' : List (Nat × Value), lsel l' [4, 3, 2, 1, 0] = [(4, vI i), (3, .ref oo), (2, .ref om), (1, .ref ox), (0, .ref b)] → WS p la e room_1 s m args below meth c Q D cA B0 7 1912 l' [] h' (k + 9300) (n + 113000)) : ∀ l : List (Nat × Value), lsel l [4, 3, 2, 1, 0] = [(4, vI i), (3, .ref oo), (2, .ref om), (1, .ref ox), (0, .ref b)] → WS p la e room_1 s m args below meth c Q D cA B0 7 1680 l [] h k n := by
  intro l hsl
  have dk : ∀ {pc : Nat} {q : Instr × Nat}, lkd DL_c34 pc = some q → decode cL_law pc = .ok q := lkd_ok DL_c34_ok
  obtain ⟨hk1, hk2⟩ := hk
  obtain ⟨st, C0, ⟨bv, bw, ho⟩, S, A, th, M0⟩ := V
  refine WS.sel [4, 3, 2, 1, 0] hsl ?_
  iterate 5 refine fst1_ok X (dk rfl) rfl ?_
  refine sld_ok X SC 1 (by decide +kernel) (by omega) (dk rfl) (fun x1 ex1 => ?_)
  iterate 4 refine fst1_ok X (dk rfl) rfl ?_
  refine sld_ok X SC 2 (by decide +kernel) (by omega) (dk rfl) (fun x2 ex2 => ?_)
  refine fst1_ok X (dk rfl) rfl ?_
  refine callSH_ok (av := [.ref ox, .int x1, .int x2, .ref oo]) (r := []) X E (w_isSo h hl Y C0 ho x1 x2) lwL_isSo liL mlL_261 lsL_isSo hyL_isSo ⟨Nat.le_of_ble_eq_true rfl, Nat.le_of_ble_eq_true rfl⟩ ⟨by show k + 2 ≤ 600128; omega, by show n + 12 ≤ 7301098; omega⟩ (Nat.le_of_ble_eq_true rfl) (dk rfl) ?_
  intro v1 h1 W1
  obtain ⟨z1, rfl⟩ := id W1.1
  have M1 := W1.2.2.md ho M0
  iterate 6 refine fst1_ok X (dk rfl) rfl ?_
  refine sld_ok X SC 1 (by decide +kernel) (by omega) (dk rfl) (fun z_ ez => ?_)
  rw [ez.trans ex1.symm]
  clear ez z_
  iterate 4 refine fst1_ok X (dk rfl) rfl ?_
  refine sld_ok X SC 2 (by decide +kernel) (by omega) (dk rfl) (fun z_ ez => ?_)
  rw [ez.trans ex2.symm]
  clear ez z_
  refine callV_ok (ci := 12) (T := TX10) (N := 6) (av := [.int x1, .int x2]) (r := []) X E (RF.c_isSo _ M1 x1 x2) lkX10_isSo mlL_263 lmX10_isSo lvX10_isSo ⟨Nat.le_of_ble_eq_true rfl, Nat.le_of_ble_eq_true rfl⟩ ⟨by show k + 2 + 137 ≤ 600128; omega, by show n + 12 + 2184 ≤ 7301098; omega⟩ rfl M1.obj (Nat.le_of_ble_eq_true rfl) (dk rfl) ?_
  rintro _ h2 ⟨⟨u, rfl⟩, P2⟩
  refine fst1_ok X (dk rfl) rfl ?_
  refine br_ok X (dk rfl) rfl (show ((1717 : Nat) : Int) + 195 = ((1912 : Nat) : Int) from rfl) (fun _ => ?_) (fun q => absurd trivial q)
  refine WS.widen (k' := k + 9300) (n' := n + 113000) (by show k + 2 + 137 ≤ _; omega) (by show n + 12 + 2184 ≤ _; omega) ?_
  exact kk _ _ (LwI.ask W1.2.1 W1.2.2 M1 P2) _ rfl
set_option maxHeartbeats 8000000 in
set_option maxRecDepth 100000 in
theorem law_c35 (X : CX p s m args c D cA B0 7 cL_law RL) (E : EN D cA B0 pa s) (hl : la.stackTraces = false) (SC : Scr b L xs s B0) (hi : i + 6 ≤ L) (Y : LYO BB QQ) (V : LwI BB QQ PP h ox om oo kn) (hk : k + 9300 ≤ 600128 ∧ n + 113000 ≤ 7301098)
    (kk : ∀ (h' : AH) (kn' : Int32), LwI BB QQ PP h' ox om oo kn' → ∀ l' : List (Nat × Value), lsel l' [4, 3, 2, 1, 0] = [(4, vI i), (3, .ref oo), (2, .ref om), (1, .ref ox), (0, .ref b)] → WS p la e room_1 s m args below meth c Q D cA B0 7 1912 l' [] h' (k + 9300) (n + 113000)) : ∀ l : List (Nat × Value), lsel l [4, 3, 2, 1, 0] = [(4, vI i), (3, .ref oo), (2, .ref om), (1, .ref ox), (0, .ref b)] → WS p la e room_1 s m args below meth c Q D cA B0 7 1720 l [] h k n := by
  intro l hsl
  have dk : ∀ {pc : Nat} {q : Instr × Nat}, lkd DL_c35 pc = some q → decode cL_law pc = .ok q := lkd_ok DL_c35_ok
  obtain ⟨hk1, hk2⟩ := hk
  obtain ⟨st, C0, ⟨bv, bw, ho⟩, S, A, th, M0⟩ := V
  refine WS.sel [4, 3, 2, 1, 0] hsl ?_
  iterate 5 refine fst1_ok X (dk rfl) rfl ?_
  refine sld_ok X SC 1 (by decide +kernel) (by omega) (dk rfl) (fun x1 ex1 => ?_)
  iterate 4 refine fst1_ok X (dk rfl) rfl ?_
  refine sld_ok X SC 2 (by decide +kernel) (by omega) (dk rfl) (fun x2 ex2 => ?_)
  refine fst1_ok X (dk rfl) rfl ?_
  refine callSH_ok (av := [.ref ox, .int x1, .int x2, .ref oo]) (r := []) X E (w_unlike h hl Y C0 ho x1 x2) lwL_unlike liL mlL_264 lsL_unlike hyL_unlike ⟨Nat.le_of_ble_eq_true rfl, Nat.le_of_ble_eq_true rfl⟩ ⟨by show k + 2 ≤ 600128; omega, by show n + 12 ≤ 7301098; omega⟩ (Nat.le_of_ble_eq_true rfl) (dk rfl) ?_
  intro v1 h1 W1
  obtain ⟨rfl, W2⟩ := id W1
  have M1 := W1.2.2.1.md ho M0
  iterate 6 refine fst1_ok X (dk rfl) rfl ?_
  refine sld_ok X SC 1 (by decide +kernel) (by omega) (dk rfl) (fun z_ ez => ?_)
  rw [ez.trans ex1.symm]
  clear ez z_
  iterate 4 refine fst1_ok X (dk rfl) rfl ?_
  refine sld_ok X SC 2 (by decide +kernel) (by omega) (dk rfl) (fun z_ ez => ?_)
  rw [ez.trans ex2.symm]
  clear ez z_
  refine callV_ok (ci := 12) (T := TX10) (N := 6) (av := [.int x1, .int x2]) (r := []) X E (RF.x_unlike _ M1 x1 x2) lkX10_unlike mlL_266 lmX10_unlike lvX10_unlike ⟨Nat.le_of_ble_eq_true rfl, Nat.le_of_ble_eq_true rfl⟩ ⟨by show k + 2 + 0 ≤ 600128; omega, by show n + 12 + 0 ≤ 7301098; omega⟩ rfl M1.obj (Nat.le_of_ble_eq_true rfl) (dk rfl) ?_
  intro v2 h2 P2
  obtain ⟨rfl, P3⟩ := id P2
  iterate 2 refine fst1_ok X (dk rfl) rfl ?_
  refine callV_ok (ci := 12) (T := TX10) (N := 6) (av := []) (r := []) X E (RF.c_thrown _ P2.2.1) lkX10_thrown mlL_267 lmX10_thrown lvX10_thrown ⟨Nat.le_of_ble_eq_true rfl, Nat.le_of_ble_eq_true rfl⟩ ⟨by show k + 2 + 0 ≤ 600128; omega, by show n + 12 + 0 ≤ 7301098; omega⟩ rfl P2.2.1.obj (Nat.le_of_ble_eq_true rfl) (dk rfl) ?_
  rintro _ h3 ⟨rfl, e3⟩
  subst e3
  refine fst1_ok X (dk rfl) rfl ?_
  refine br_ok X (dk rfl) rfl (show ((1763 : Nat) : Int) + 5 = ((1768 : Nat) : Int) from rfl) (fun _ => ?_) (fun q => absurd rfl q)
  refine fst1_ok X (dk rfl) rfl ?_
  have V2 : LwI BB QQ PP h3 ox om oo kn := LwI.act W1.2.1 W1.2.2.1 M1 P2
  by_cases hz : (aUnlike x1 x2 st).1.1 = 0
  · obtain ⟨w, hw⟩ := W1.2.2.2.1 hz
    have hw2 := box_fr hw M1 P2.2.2
    rw [if_pos (by exact hz)]
    refine br_ok X (dk rfl) rfl (show ((1770 : Nat) : Int) + 16 = ((1786 : Nat) : Int) from rfl) (fun q => absurd q (by rw [hz]; decide)) (fun _ => ?_)
    refine fst1_ok X (dk rfl) rfl ?_
    refine getfN_ok X E.2.1 flnL_13 (dk rfl) hw2 rfl ?_
    iterate 2 refine fst1_ok X (dk rfl) rfl ?_
    refine lcmp_ok X (dk rfl) ?_
    rw [lg_same]
    refine br_ok X (dk rfl) rfl (show ((1781 : Nat) : Int) + 5 = ((1786 : Nat) : Int) from rfl) (fun _ => ?_) (fun q => absurd rfl q)
    refine br_ok X (dk rfl) rfl (show ((1786 : Nat) : Int) + 126 = ((1912 : Nat) : Int) from rfl) (fun _ => ?_) (fun q => absurd trivial q)
    refine WS.widen (k' := k + 9300) (n' := n + 113000) (by show k + 2 + 0 ≤ _; omega) (by show n + 12 + 0 ≤ _; omega) ?_
    exact kk _ _ V2 _ rfl
  · refine br_ok X (dk rfl) rfl (show ((1770 : Nat) : Int) + 16 = ((1786 : Nat) : Int) from rfl) (fun _ => ?_) (fun q => absurd (lwI_ne0 W1.2.2.2.2 hz) q)
    refine br_ok X (dk rfl) rfl (show ((1786 : Nat) : Int) + 126 = ((1912 : Nat) : Int) from rfl) (fun _ => ?_) (fun q => absurd trivial q)
    refine WS.widen (k' := k + 9300) (n' := n + 113000) (by show k + 2 + 0 ≤ _; omega) (by show n + 12 + 0 ≤ _; omega) ?_
    exact kk _ _ V2 _ rfl
set_option maxHeartbeats 8000000 in
theorem law_c36 (X : CX p s m args c D cA B0 7 cL_law RL) (E : EN D cA B0 pa s) (hl : la.stackTraces = false) (SC : Scr b L xs s B0) (hi : i + 6 ≤ L) (Y : LYO BB QQ) (V : LwI BB QQ PP h ox om oo kn) (hk : k + 9300 ≤ 600128 ∧ n + 113000 ≤ 7301098)
    (kk : ∀ (h' : AH) (kn' : Int32), LwI BB QQ PP h' ox om oo kn' → ∀ l' : List (Nat × Value), lsel l' [4, 3, 2, 1, 0] = [(4, vI i), (3, .ref oo), (2, .ref om), (1, .ref ox), (0, .ref b)] → WS p la e room_1 s m args below meth c Q D cA B0 7 1912 l' [] h' (k + 9300) (n + 113000)) : ∀ l : List (Nat × Value), lsel l [4, 3, 2, 1, 0] = [(4, vI i), (3, .ref oo), (2, .ref om), (1, .ref ox), (0, .ref b)] → WS p la e room_1 s m args below meth c Q D cA B0 7 1789 l [] h k n := by
  intro l hsl
  have dk : ∀ {pc : Nat} {q : Instr × Nat}, lkd DL_c36 pc = some q → decode cL_law pc = .ok q := lkd_ok DL_c36_ok
  obtain ⟨hk1, hk2⟩ := hk
  obtain ⟨st, C0, ⟨bv, bw, ho⟩, S, A, th, M0⟩ := V
  refine WS.sel [4, 3, 2, 1, 0] hsl ?_
  iterate 5 refine fst1_ok X (dk rfl) rfl ?_
  refine sld_ok X SC 1 (by decide +kernel) (by omega) (dk rfl) (fun x1 _ => ?_)
  iterate 4 refine fst1_ok X (dk rfl) rfl ?_
  refine sld_ok X SC 2 (by decide +kernel) (by omega) (dk rfl) (fun x2 _ => ?_)
  have go2 : ∀ (bb : Bool) (l : List (Nat × Value)), lsel l [4, 3, 2, 1, 0] = [(4, vI i), (3, .ref oo), (2, .ref om), (1, .ref ox), (0, .ref b)] → WS p la e room_1 s m args below meth c Q D cA B0 7 1810 l [.int (bI bb), .int x1, .ref ox] h k n := by
    intro bb l hsl
    refine WS.sel [4, 3, 2, 1, 0] hsl ?_
    refine fst1_ok X (dk rfl) rfl ?_
    refine callSH_ok (av := [.ref ox, .int x1, .int (bI bb), .ref oo]) (r := []) X E (w_weight h hl Y C0 ho x1 bb) lwL_weight liL mlL_271 lsL_weight hyL_weight ⟨Nat.le_of_ble_eq_true rfl, Nat.le_of_ble_eq_true rfl⟩ ⟨by show k + 1 ≤ 600128; omega, by show n + 6 ≤ 7301098; omega⟩ (Nat.le_of_ble_eq_true rfl) (dk rfl) ?_
    intro v1 h1 W1
    obtain ⟨z1, rfl⟩ := id W1.1
    have M1 := W1.2.2.md ho M0
    iterate 6 refine fst1_ok X (dk rfl) rfl ?_
    refine sld_ok X SC 1 (by decide +kernel) (by omega) (dk rfl) (fun z2 _ => ?_)
    iterate 4 refine fst1_ok X (dk rfl) rfl ?_
    refine sld_ok X SC 2 (by decide +kernel) (by omega) (dk rfl) (fun z3 _ => ?_)
    have go3 : ∀ (u : Int32) (l : List (Nat × Value)), lsel l [4, 3, 2, 1, 0] = [(4, vI i), (3, .ref oo), (2, .ref om), (1, .ref ox), (0, .ref b)] → WS p la e room_1 s m args below meth c Q D cA B0 7 1837 l [.int u, .int z2, .ref om] h1 (k + 1) (n + 6) := by
      intro u l hsl
      refine WS.sel [4, 3, 2, 1, 0] hsl ?_
      refine callV_ok (ci := 12) (T := TX10) (N := 6) (av := [.int z2, .int u]) (r := []) X E (RF.c_weight _ M1 z2 u) lkX10_weight mlL_274 lmX10_weight lvX10_weight ⟨Nat.le_of_ble_eq_true rfl, Nat.le_of_ble_eq_true rfl⟩ ⟨by show k + 1 + 9 ≤ 600128; omega, by show n + 6 + 16 ≤ 7301098; omega⟩ rfl M1.obj (Nat.le_of_ble_eq_true rfl) (dk rfl) ?_
      rintro _ h2 ⟨⟨u2, rfl⟩, P2⟩
      refine fst1_ok X (dk rfl) rfl ?_
      refine br_ok X (dk rfl) rfl (show ((1842 : Nat) : Int) + 70 = ((1912 : Nat) : Int) from rfl) (fun _ => ?_) (fun q => absurd trivial q)
      refine WS.widen (k' := k + 9300) (n' := n + 113000) (by show k + 1 + 9 ≤ _; omega) (by show n + 6 + 16 ≤ _; omega) ?_
      exact kk _ _ (LwI.ask W1.2.1 W1.2.2 M1 P2) _ rfl
    refine br_ok X (dk rfl) rfl (show ((1829 : Nat) : Int) + 7 = ((1836 : Nat) : Int) from rfl) (fun _ => ?_) (fun _ => ?_)
    · refine fst1_ok X (dk rfl) rfl ?_
      exact go3 _ _ rfl
    · refine fst1_ok X (dk rfl) rfl ?_
      refine br_ok X (dk rfl) rfl (show ((1833 : Nat) : Int) + 4 = ((1837 : Nat) : Int) from rfl) (fun _ => ?_) (fun q => absurd trivial q)
      exact go3 _ _ rfl
  refine br_ok X (dk rfl) rfl (show ((1802 : Nat) : Int) + 7 = ((1809 : Nat) : Int) from rfl) (fun _ => ?_) (fun _ => ?_)
  · refine fst1_ok X (dk rfl) rfl ?_
    exact go2 false _ rfl
  · refine fst1_ok X (dk rfl) rfl ?_
    refine br_ok X (dk rfl) rfl (show ((1806 : Nat) : Int) + 4 = ((1810 : Nat) : Int) from rfl) (fun _ => ?_) (fun q => absurd trivial q)
    exact go2 true _ rfl
set_option maxHeartbeats 8000000 in
theorem law_c37 (X : CX p s m args c D cA B0 7 cL_law RL) (E : EN D cA B0 pa s) (hl : la.stackTraces = false) (SC : Scr b L xs s B0) (hi : i + 6 ≤ L) (Y : LYO BB QQ) (V : LwI BB QQ PP h ox om oo kn) (hk : k + 9300 ≤ 600128 ∧ n + 113000 ≤ 7301098)
    (kk : ∀ (h' : AH) (kn' : Int32), LwI BB QQ PP h' ox om oo kn' → ∀ l' : List (Nat × Value), lsel l' [4, 3, 2, 1, 0] = [(4, vI i), (3, .ref oo), (2, .ref om), (1, .ref ox), (0, .ref b)] → WS p la e room_1 s m args below meth c Q D cA B0 7 1912 l' [] h' (k + 9300) (n + 113000)) : ∀ l : List (Nat × Value), lsel l [4, 3, 2, 1, 0] = [(4, vI i), (3, .ref oo), (2, .ref om), (1, .ref ox), (0, .ref b)] → WS p la e room_1 s m args below meth c Q D cA B0 7 1845 l [] h k n := by
  intro l hsl
  have dk : ∀ {pc : Nat} {q : Instr × Nat}, lkd DL_c37 pc = some q → decode cL_law pc = .ok q := lkd_ok DL_c37_ok
  obtain ⟨hk1, hk2⟩ := hk
  obtain ⟨st, C0, ⟨bv, bw, ho⟩, S, A, th, M0⟩ := V
  refine WS.sel [4, 3, 2, 1, 0] hsl ?_
  iterate 5 refine fst1_ok X (dk rfl) rfl ?_
  refine sld_ok X SC 1 (by decide +kernel) (by omega) (dk rfl) (fun x1 ex1 => ?_)
  refine fst1_ok X (dk rfl) rfl ?_
  refine callSH_ok (av := [.ref ox, .int x1, .ref oo]) (r := []) X E (w_house h hl Y C0 ho x1) lwL_house liL mlL_275 lsL_house hyL_house ⟨Nat.le_of_ble_eq_true rfl, Nat.le_of_ble_eq_true rfl⟩ ⟨by show k + 1 ≤ 600128; omega, by show n + 6 ≤ 7301098; omega⟩ (Nat.le_of_ble_eq_true rfl) (dk rfl) ?_
  intro v1 h1 W1
  obtain ⟨z1, rfl⟩ := id W1.1
  have M1 := W1.2.2.md ho M0
  iterate 6 refine fst1_ok X (dk rfl) rfl ?_
  refine sld_ok X SC 1 (by decide +kernel) (by omega) (dk rfl) (fun z_ ez => ?_)
  rw [ez.trans ex1.symm]
  clear ez z_
  refine callV_ok (ci := 12) (T := TX10) (N := 6) (av := [.int x1]) (r := []) X E (RF.c_house _ M1 x1) lkX10_house mlL_277 lmX10_house lvX10_house ⟨Nat.le_of_ble_eq_true rfl, Nat.le_of_ble_eq_true rfl⟩ ⟨by show k + 1 + 24 ≤ 600128; omega, by show n + 6 + 24 ≤ 7301098; omega⟩ rfl M1.obj (Nat.le_of_ble_eq_true rfl) (dk rfl) ?_
  rintro _ h2 ⟨⟨u, rfl⟩, P2⟩
  refine fst1_ok X (dk rfl) rfl ?_
  refine br_ok X (dk rfl) rfl (show ((1870 : Nat) : Int) + 42 = ((1912 : Nat) : Int) from rfl) (fun _ => ?_) (fun q => absurd trivial q)
  refine WS.widen (k' := k + 9300) (n' := n + 113000) (by show k + 1 + 24 ≤ _; omega) (by show n + 6 + 24 ≤ _; omega) ?_
  exact kk _ _ (LwI.ask W1.2.1 W1.2.2 M1 P2) _ rfl
set_option maxHeartbeats 8000000 in
theorem law_c38 (X : CX p s m args c D cA B0 7 cL_law RL) (E : EN D cA B0 pa s) (hl : la.stackTraces = false) (SC : Scr b L xs s B0) (hi : i + 6 ≤ L) (Y : LYO BB QQ) (V : LwI BB QQ PP h ox om oo kn) (hk : k + 9300 ≤ 600128 ∧ n + 113000 ≤ 7301098)
    (kk : ∀ (h' : AH) (kn' : Int32), LwI BB QQ PP h' ox om oo kn' → ∀ l' : List (Nat × Value), lsel l' [4, 3, 2, 1, 0] = [(4, vI i), (3, .ref oo), (2, .ref om), (1, .ref ox), (0, .ref b)] → WS p la e room_1 s m args below meth c Q D cA B0 7 1912 l' [] h' (k + 9300) (n + 113000)) : ∀ l : List (Nat × Value), lsel l [4, 3, 2, 1, 0] = [(4, vI i), (3, .ref oo), (2, .ref om), (1, .ref ox), (0, .ref b)] → WS p la e room_1 s m args below meth c Q D cA B0 7 1873 l [] h k n := by
  intro l hsl
  have dk : ∀ {pc : Nat} {q : Instr × Nat}, lkd DL_c38 pc = some q → decode cL_law pc = .ok q := lkd_ok DL_c38_ok
  obtain ⟨hk1, hk2⟩ := hk
  obtain ⟨st, C0, ⟨bv, bw, ho⟩, S, A, th, M0⟩ := V
  refine WS.sel [4, 3, 2, 1, 0] hsl ?_
  obtain ⟨fs, -, hb⟩ := C0.cell
  refine fst1_ok X (dk rfl) rfl ?_
  refine callV_ok (ci := 8) (T := TX6) (N := 14) (av := []) (r := []) X E (s6_knock h C0) lkX6_knock mlL_278 lmX6_knock lpX6_knock ⟨Nat.le_of_ble_eq_true rfl, Nat.le_of_ble_eq_true rfl⟩ ⟨by show k + 0 ≤ 600128; omega, by show n + 0 ≤ 7301098; omega⟩ rfl hb (Nat.le_of_ble_eq_true rfl) (dk rfl) ?_
  rintro _ h1 ⟨rfl, S1, f1⟩
  have K1 : LwK oo h h1 := LwK.of f1 ho
  have M1 := K1.md ho M0
  iterate 2 refine fst1_ok X (dk rfl) rfl ?_
  refine callV_ok (ci := 12) (T := TX10) (N := 6) (av := []) (r := []) X E (RF.c_knock _ M1) lkX10_knock mlL_281 lmX10_knock lvX10_knock ⟨Nat.le_of_ble_eq_true rfl, Nat.le_of_ble_eq_true rfl⟩ ⟨by show k + 0 + 0 ≤ 600128; omega, by show n + 0 + 0 ≤ 7301098; omega⟩ rfl M1.obj (Nat.le_of_ble_eq_true rfl) (dk rfl) ?_
  rintro _ h2 ⟨rfl, P2⟩
  refine fst1_ok X (dk rfl) rfl ?_
  refine br_ok X (dk rfl) rfl (show ((1883 : Nat) : Int) + 29 = ((1912 : Nat) : Int) from rfl) (fun _ => ?_) (fun q => absurd trivial q)
  refine WS.widen (k' := k + 9300) (n' := n + 113000) (by show k + 0 + 0 ≤ _; omega) (by show n + 0 + 0 ≤ _; omega) ?_
  exact kk _ _ (LwI.ask S1 K1 M1 P2) _ rfl
set_option maxHeartbeats 8000000 in
theorem law_c39 (X : CX p s m args c D cA B0 7 cL_law RL) (E : EN D cA B0 pa s) (hl : la.stackTraces = false) (SC : Scr b L xs s B0) (hi : i + 6 ≤ L) (Y : LYO BB QQ) (V : LwI BB QQ PP h ox om oo kn) (hk : k + 9300 ≤ 600128 ∧ n + 113000 ≤ 7301098)
    (kk : ∀ (h' : AH) (kn' : Int32), LwI BB QQ PP h' ox om oo kn' → ∀ l' : List (Nat × Value), lsel l' [4, 3, 2, 1, 0] = [(4, vI i), (3, .ref oo), (2, .ref om), (1, .ref ox), (0, .ref b)] → WS p la e room_1 s m args below meth c Q D cA B0 7 1912 l' [] h' (k + 9300) (n + 113000)) : ∀ l : List (Nat × Value), lsel l [4, 3, 2, 1, 0] = [(4, vI i), (3, .ref oo), (2, .ref om), (1, .ref ox), (0, .ref b)] → WS p la e room_1 s m args below meth c Q D cA B0 7 1886 l [] h k n := by
  intro l hsl
  have dk : ∀ {pc : Nat} {q : Instr × Nat}, lkd DL_c39 pc = some q → decode cL_law pc = .ok q := lkd_ok DL_c39_ok
  obtain ⟨hk1, hk2⟩ := hk
  obtain ⟨st, C0, ⟨bv, bw, ho⟩, S, A, th, M0⟩ := V
  refine WS.sel [4, 3, 2, 1, 0] hsl ?_
  obtain ⟨fs, -, hb⟩ := C0.cell
  obtain ⟨I0, T0, KC⟩ := FZ_st Y C0
  refine fst1_ok X (dk rfl) rfl ?_
  refine callV_ok (ci := 8) (T := TX6) (N := 14) (av := []) (r := []) X E (FZ.c6_isSound h I0 T0) lkX6_isSound mlL_282 lmX6_isSound lpX6_isSound ⟨Nat.le_of_ble_eq_true rfl, Nat.le_of_ble_eq_true rfl⟩ ⟨by show k + 0 ≤ 600128; omega, by show n + 0 ≤ 7301098; omega⟩ rfl hb (Nat.le_of_ble_eq_true rfl) (dk rfl) ?_
  rintro _ h1 ⟨⟨u1, rfl⟩, J1⟩
  obtain ⟨S1, f1⟩ := KC J1.1
  have K1 : LwK oo h h1 := LwK.of f1 ho
  have M1 := K1.md ho M0
  iterate 2 refine fst1_ok X (dk rfl) rfl ?_
  refine callV_ok (ci := 12) (T := TX10) (N := 6) (av := []) (r := []) X E (RF.c_isSound _ M1) lkX10_isSound mlL_286 lmX10_isSound lvX10_isSound ⟨Nat.le_of_ble_eq_true rfl, Nat.le_of_ble_eq_true rfl⟩ ⟨by show k + 0 + 0 ≤ 600128; omega, by show n + 0 + 0 ≤ 7301098; omega⟩ rfl M1.obj (Nat.le_of_ble_eq_true rfl) (dk rfl) ?_
  rintro _ h2 ⟨⟨u2, rfl⟩, P2⟩
  refine fst1_ok X (dk rfl) rfl ?_
  refine br_ok X (dk rfl) rfl (show ((1896 : Nat) : Int) + 16 = ((1912 : Nat) : Int) from rfl) (fun _ => ?_) (fun q => absurd trivial q)
  refine WS.widen (k' := k + 9300) (n' := n + 113000) (by show k + 0 + 0 ≤ _; omega) (by show n + 0 + 0 ≤ _; omega) ?_
  exact kk _ _ (LwI.ask S1 K1 M1 P2) _ rfl
set_option maxHeartbeats 8000000 in
theorem law_c40 (X : CX p s m args c D cA B0 7 cL_law RL) (E : EN D cA B0 pa s) (hl : la.stackTraces = false) (SC : Scr b L xs s B0) (hi : i + 6 ≤ L) (Y : LYO BB QQ) (V : LwI BB QQ PP h ox om oo kn) (hk : k + 9300 ≤ 600128 ∧ n + 113000 ≤ 7301098)
    (kk : ∀ (h' : AH) (kn' : Int32), LwI BB QQ PP h' ox om oo kn' → ∀ l' : List (Nat × Value), lsel l' [4, 3, 2, 1, 0] = [(4, vI i), (3, .ref oo), (2, .ref om), (1, .ref ox), (0, .ref b)] → WS p la e room_1 s m args below meth c Q D cA B0 7 1912 l' [] h' (k + 9300) (n + 113000)) : ∀ l : List (Nat × Value), lsel l [4, 3, 2, 1, 0] = [(4, vI i), (3, .ref oo), (2, .ref om), (1, .ref ox), (0, .ref b)] → WS p la e room_1 s m args below meth c Q D cA B0 7 1899 l [] h k n := by
  intro l hsl
  have dk : ∀ {pc : Nat} {q : Instr × Nat}, lkd DL_c40 pc = some q → decode cL_law pc = .ok q := lkd_ok DL_c40_ok
  obtain ⟨hk1, hk2⟩ := hk
  obtain ⟨st, C0, ⟨bv, bw, ho⟩, S, A, th, M0⟩ := V
  refine WS.sel [4, 3, 2, 1, 0] hsl ?_
  obtain ⟨fs, -, hb⟩ := C0.cell
  obtain ⟨I0, T0, KC⟩ := FZ_st Y C0
  refine fst1_ok X (dk rfl) rfl ?_
  refine callV_ok (ci := 8) (T := TX6) (N := 14) (av := []) (r := []) X E (FZ.c6_digest h I0 T0) lkX6_digest mlL_287 lmX6_digest lpX6_digest ⟨Nat.le_of_ble_eq_true rfl, Nat.le_of_ble_eq_true rfl⟩ ⟨by show k + 0 ≤ 600128; omega, by show n + 0 ≤ 7301098; omega⟩ rfl hb (Nat.le_of_ble_eq_true rfl) (dk rfl) ?_
  rintro _ h1 ⟨⟨u1, rfl⟩, J1⟩
  obtain ⟨S1, f1⟩ := KC J1.1
  have K1 : LwK oo h h1 := LwK.of f1 ho
  have M1 := K1.md ho M0
  iterate 2 refine fst1_ok X (dk rfl) rfl ?_
  refine callV_ok (ci := 12) (T := TX10) (N := 6) (av := []) (r := []) X E (RF.c_digest _ M1) lkX10_digest mlL_291 lmX10_digest lvX10_digest ⟨Nat.le_of_ble_eq_true rfl, Nat.le_of_ble_eq_true rfl⟩ ⟨by show k + 0 + 8500 ≤ 600128; omega, by show n + 0 + 97199 ≤ 7301098; omega⟩ rfl M1.obj (Nat.le_of_ble_eq_true rfl) (dk rfl) ?_
  rintro _ h2 ⟨⟨u2, rfl⟩, P2⟩
  refine fst1_ok X (dk rfl) rfl ?_
  refine br_ok X (dk rfl) rfl (show ((1909 : Nat) : Int) + 3 = ((1912 : Nat) : Int) from rfl) (fun _ => ?_) (fun q => absurd trivial q)
  refine WS.widen (k' := k + 9300) (n' := n + 113000) (by show k + 0 + 8500 ≤ _; omega) (by show n + 0 + 97199 ≤ _; omega) ?_
  exact kk _ _ (LwI.ask S1 K1 M1 P2) _ rfl
end LC
