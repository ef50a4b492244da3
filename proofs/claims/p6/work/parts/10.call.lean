/-! CONTRACTS over the picture, and calls -/
def partsF (j : Nat) : Value := [Value.int 0, .int 0, .int 1, .int 1, .int 2, .int 2, .int 3, .int 3].getD j .null
/-- the texts whose letters are used: number, place, text, bytes -/
def scO : Nat → String
  | 4 => RX6
  | _ => RX10
def scK : Nat → Nat
  | 0 => 176
  | 1 => 189
  | 2 => 191
  | 3 => 197
  | _ => 323
def scT : Nat → String
  | 0 => ""
  | 1 => "("
  | 2 => ","
  | 3 => ")"
  | _ => "KLMNPQST"
def scB : List (List Int32) := [[], [40], [44], [41], [75, 76, 77, 78, 80, 81, 83, 84]]
def scL : List Nat := [0, 1, 1, 1, 8]
/-- the texts of exceptions -/
def xsL : List (String × Nat × String) := [(RX6, 135, "by is not 0 to 7"), (RX6, 183, "how is not 0 or 1"), (RX6, 211, "how is not 0 to 2"), (RX6, 239, "what is not 0 to 4"), (RX6, 308, "no such slot"), (RX6, 311, "no such answe\x72"), (RX6, 313, "no such name"), (RX6, 86, "no such head"), (RX0, 29, "no such name")]
/-- what a throw and a text need of the state: cells below B0; where the texts lie stands in D (50: the texts, 51: their bytes) -/
def XS (D : va_G) (B0 : Nat) (U : State) (H : Heap) : Prop := vx_Zq Bundle.tN "UNASSIGNED_STACK" Bundle.steD (fun q : Nat => B0 ≤ q) U H ∧ vx_Zq Bundle.tN "SUPPRESSED_SENTINEL" Bundle.listD (fun q : Nat => B0 ≤ q) U H ∧
  va_Z "java/lang/String" "COMPACT_STRINGS" "Z" (.int 1) (fun q : Nat => B0 ≤ q) U H ∧ (∀ q ∈ xsL, ∃ a, vk_R q.1 q.2.1 q.2.2 a U) ∧ (∀ i, i < 5 → vk_R (scO i) (scK i) (scT i) (D.2 50 i) U) ∧ vk_S 5 scL scB (D.2 50) (D.2 51) (fun q : Nat => B0 ≤ q) U H ∧
  va_Nc "java/lang/IllegalArgumentException" "java/lang/IndexOutOfBoundsException" U ∧ va_Zq "jdk/internal/util/Preconditions" "SIOOBE_FORMATTER" "Ljava/util/function/BiFunction;" (fun q : Nat => B0 ≤ q) U H
theorem XS.to {D : va_G} {B0 : Nat} {u U : State} (h : XS D B0 u u.heap) (hW : u.WarmedH U.vm) (hk : ∀ a : Nat, a < u.heap.size → ¬ B0 ≤ a → U.heap[a]? = u.heap[a]?) : XS D B0 U U.heap := by
  obtain ⟨h1, h2, h3, h4, h5, h6, h7, h8⟩ := h
  have hal := hW.alike
  exact ⟨(h1.moved hal).kept hk, (h2.moved hal).kept hk, (h3.moved hal).kept hk, fun q hq => (h4 q hq).elim fun a ha => ⟨a, vk_R.warm hW ha⟩, fun i hi => vk_R.warm hW (h5 i hi), (h6.moved hal).kept hk, h7.moved hal, (h8.moved hal).kept hk⟩
/-- the static table PARTS, at the cell pa, below B0; the texts -/
def SF (D : va_G) (B0 pa : Nat) (U : State) (H : Heap) : Prop := va_Z RX6 "PARTS" "[I" (.ref pa) (fun q : Nat => B0 ≤ q) U H ∧ va_T .int pa 8 partsF (fun q : Nat => B0 ≤ q) U H ∧ XS D B0 U H
def OV (A : Array Value) (U : State) : Prop := ∀ kd : Nat, 103 ≤ kd → kd < 107 → (Cond.arrayOver (aty kd)).before A U = true
/-- what stands all the time, in every state -/
def EN (D : va_G) (cA : Nat → ClassId) (B0 pa : Nat) (U : State) : Prop := KO D cA U ∧ (∀ w ∈ lw_tbl, isNest w = true → va_Nw w U) ∧ OV #[] U ∧ SF D B0 pa U U.heap ∧ B0 ≤ U.heap.size
theorem OV.moved {A A' : Array Value} {u U : State} (hvm : u.vm.Alike U.vm) (h : OV A u) : OV A' U := by
  intro kd h1 h2
  have h4 : kd = 103 ∨ kd = 104 ∨ kd = 105 ∨ kd = 106 := by omega
  have hh := h kd h1 h2
  rcases h4 with rfl | rfl | rfl | rfl
  · rw [aty103] at hh ⊢
    exact va_AO.use (va_AO.moved hvm (va_AO.of hh))
  · rw [aty104] at hh ⊢
    exact va_AO.use (va_AO.moved hvm (va_AO.of hh))
  · rw [aty105] at hh ⊢
    exact over_moved hvm hh
  · rw [aty106] at hh ⊢
    exact over_moved hvm hh
theorem EN.to {D : va_G} {cA : Nat → ClassId} {B0 pa : Nat} {u U : State} (h : EN D cA B0 pa u) (hW : u.WarmedH U.vm) (hs : u.heap.size ≤ U.heap.size) (hq : ∀ q : Nat, q < B0 → U.heap[q]? = u.heap[q]?) : EN D cA B0 pa U := by
  obtain ⟨h1, h2, h3, h4, h5⟩ := h
  have hal := hW.alike
  have hk : ∀ a : Nat, a < u.heap.size → ¬ B0 ≤ a → U.heap[a]? = u.heap[a]? := fun a _ z => hq a (by omega)
  refine ⟨h1.moved hal, fun w hw hn => ?_, h3.moved hal, ⟨(h4.1.moved hal).kept hk, (h4.2.1.moved hal).kept hk, h4.2.2.to hW hk⟩, Nat.le_trans h5 hs⟩
  have h6 := h2 w hw hn
  cases w <;> first | exact va_Nw.warmM hW h6 | exact va_Nw.warmF hW h6 | exact va_Nw.warmD hW h6 | exact va_Nw.warmC hW h6 | (simp [isNest] at hn)
def PC (D : va_G) (cA : Nat → ClassId) (B0 pa : Nat) (av : List Value) (h : AH) : Array Value → State → Prop := va_Pc av (fun U => Rp D cA B0 h U.heap ∧ EN D cA B0 pa U)
def QC (D : va_G) (cA : Nat → ClassId) (B0 : Nat) (post : Option Value → AH → Prop) : Array Value → State → Outcome → State → Prop := fun _ st oc t =>
  ∃ (v : Option Value) (h' : AH), oc = .returned v ∧ post v h' ∧ Rp D cA B0 h' t.heap ∧ st.heap.size ≤ t.heap.size ∧ ∀ q : Nat, q < B0 → t.heap[q]? = st.heap[q]?
/-- A CONTRACT: from the picture h and these arguments the method comes to a picture and an answer as 'post' says, within its room -/
def CT (la : Launch) (D : va_G) (cA : Nat → ClassId) (B0 pa : Nat) (y : MethodName) (bytes : ByteArray) (maxL : Nat) (ret : Option FieldType) (rm : Room) (av : List Value) (h : AH) (post : Option Value → AH → Prop) : Prop :=
  Met la y (Cond.code y bytes maxL ret :: WT) rm (PC D cA B0 pa av h) (QC D cA B0 post) rm.cells rm.slots (fun q : Nat => B0 ≤ q)
theorem PC_blind {D : va_G} {cA : Nat → ClassId} {B0 pa : Nat} {av : List Value} {h : AH} : FrameBlind (PC D cA B0 pa av h) := by
  intro a U g mk q
  obtain ⟨q1, q2, q3⟩ := q
  exact ⟨q1, q2, q3.to (State.WarmedH.refl U) (Nat.le_refl _) (fun _ _ => rfl)⟩
theorem CT_of {la : Launch} {D : va_G} {cA : Nat → ClassId} {B0 pa : Nat} {y : MethodName} {bytes : ByteArray} {maxL : Nat} {ret : Option FieldType} {rm : Room} {av : List Value} {h : AH} {post : Option Value → AH → Prop}
    (hy : plainName y.cls = true) (hml : (lg_sl av).length ≤ maxL)
    (body : ∀ (p : Program) (e : Env) (s : State) (m : MethodId) (args : Array Value) (below : List Frame) (meth : Method) (c : Code), CX p s m args c D cA B0 maxL bytes y.cls → EN D cA B0 pa s → meth.sig.returnType = ret → meth.locks = false → meth.name = y.name →
      WS p la e rm s m args below meth c (MQ below (QC D cA B0 post) args s rm.cells rm.slots (fun q : Nat => B0 ≤ q)) D cA B0 maxL 0 (lv_args 0 av) [] h 0 0) : CT la D cA B0 pa y bytes maxL ret rm av h post := by
  refine Met.ofW (cc := bytes) (maxL := maxL) (ret := ret) hy rfl ?_
  intro p e s m args below meth c s₁ B hmlc hv
  obtain ⟨rfl, hR, hE⟩ := hv
  have hts := atoms_spec (ws := Cond.code y bytes maxL ret :: WT) B.pre
  have hown : s.vm.findClass y.cls = some m.cls := findClass_of_methodNamed B.named
  have hX : CX p s m av.toArray c D cA B0 maxL bytes y.cls := ⟨B.exec, B.bytes, hmlc, hown, fun w hw => hts w (List.mem_cons_of_mem _ hw), hE.1, hE.2.2.2.2⟩
  have hl := lv_entry av (n := maxL) hml
  rw [lg_entry_eq]
  exact body p e s m av.toArray below meth c hX hE B.returns B.notSynchronized (name_of_methodNamed B.named B.method).1 s.heap [] _ ⟨hR, va_S.rf⟩ hl
section CALL
variable {p : Program} {la : Launch} {e : Env} {R : Room} {s : State} {m : MethodId} {args : Array Value} {below : List Frame} {meth : Method} {c : Code} {Q : State → Prop}
variable {D : va_G} {cA : Nat → ClassId} {B0 pa nL : Nat} {cc : ByteArray} {own : String} {pc k n : Nat} {l : List (Nat × Value)} {r : List Value} {h : AH}
/-- behind a call -/
theorem run_ok {mc ms idx : Nat} {st : List Value} {As : Array Value} {post : Option Value → AH → Prop} (hB : B0 ≤ s.heap.size)
    (hr : ∀ (H : Heap) (locs : List Loc) (ls : Array Slot), HS D cA B0 s h H locs → lv_has ls nL l → va_Run p la e R s m args below meth c H locs k n mc ms (F0 m pc ls st) r (QC D cA B0 post As) (fun q : Nat => B0 ≤ q))
    (kk : ∀ (v : Option Value) (h' : AH), post v h' → WS p la e R s m args below meth c Q D cA B0 nL (pc + 3) l (v.toList ++ r) h' (k + mc) (n + ms)) : WS p la e R s m args below meth c Q D cA B0 nL pc l st h k n := by
  intro H locs ls hH hls T hT X
  obtain ⟨v, st₀, t, T', L, h0, X', hL, e1, e2, ⟨v', h', hv, hp, hR, hz, hq⟩, stp⟩ := hr H locs ls hH hls T hT X
  cases hv
  have hz' : H.size ≤ T'.heap.size := by rw [e1, ← h0]; exact hz
  obtain ⟨t2, a1, b1⟩ := kk v h' hp T'.heap (locs ++ L) ls ⟨by rw [e1]; exact hR, Nat.le_trans hH.2.1 hz', fun q h1 h2 => by rw [e1, hq q (by omega), h0]; exact hH.2.2.1 q h1 h2, fun q hq' => by
      rcases List.mem_append.mp hq' with g | g
      · exact hH.2.2.2 q g
      · exact hL q g⟩ hls T' rfl X'
  exact ⟨t2, stp t2 a1, b1⟩
/-- what a call needs of the tables -/
def LK (y : MethodName) (bytes : ByteArray) (maxL np : Nat) (ret : Option FieldType) : Prop := Cond.code y bytes maxL ret ∈ WT ∧ Cond.initialized y.cls ∈ WT ∧ (y.cls ≠ "java/lang/invoke/MethodHandle" ∧ y.cls ≠ "java/lang/invoke/VarHandle") ∧ (parseMethodDescriptor y.desc).map (fun d => d.parameters.length) = some np
theorem preS_of (X : CX p s m args c D cA B0 nL cc own) (E : EN D cA B0 pa s) {H : Heap} {locs : List Loc} (hH : HS D cA B0 s h H locs) (av : List Value) : PreS s H (PC D cA B0 pa av h) av :=
  ⟨PC_blind, fun U hU hW => ⟨rfl, by rw [hU]; exact hH.1, E.to hW (by rw [hU]; exact hH.2.1) (fun q hq => by rw [hU]; exact hH.2.2.1 q (Nat.lt_of_lt_of_le hq E.2.2.2.2) (by omega))⟩⟩
theorem callB_ok (X : CX p s m args c D cA B0 nL cc own) {y : MethodName} {bytes : ByteArray} {maxL np idx : Nat} {ret : Option FieldType} {rm : Room} (hL : LK y bytes maxL np ret) (hl : Cond.methodLink own idx y ∈ WT) (hR : rm.frames + 1 ≤ R.frames ∧ 8 + (maxL + 11) + rm.locals ≤ R.locals) :
    CallB R s args own idx y bytes maxL ret (Cond.code y bytes maxL ret :: WT) rm rm.cells rm.slots np :=
  callB_of np X.2.2.2.2.1 (WT_goodIn y bytes maxL ret hL.1) rfl rfl rfl (X.2.2.2.2.1 _ hL.2.1) (X.2.2.2.2.1 _ hl) ⟨hL.2.2.1.1, hL.2.2.1.2, hL.2.2.2⟩ hR
theorem fix_ok (X : CX p s m args c D cA B0 nL cc own) : CallFix p m c cc nL s args WT own := ⟨X.1, X.2.1, X.2.2.1, X.2.2.2.1, X.2.2.2.2.1⟩
theorem callS_ok (X : CX p s m args c D cA B0 nL cc own) (E : EN D cA B0 pa s) {y : MethodName} {bytes : ByteArray} {maxL idx : Nat} {ret : Option FieldType} {rm : Room} {av : List Value} {post : Option Value → AH → Prop}
    (hM : CT la D cA B0 pa y bytes maxL ret rm av h post) (hL : LK y bytes maxL av.length ret) (hl : Cond.methodLink own idx y ∈ WT) (hs : Cond.static y ∈ WT) (hR : rm.frames + 1 ≤ R.frames ∧ 8 + (maxL + 11) + rm.locals ≤ R.locals) (hf : k + rm.cells ≤ R.cells ∧ n + rm.slots ≤ R.slots)
    (hW : (r.map fun v => v.category).sum ≤ 8) (hd : decode cc pc = .ok (.invokestatic idx, 3))
    (kk : ∀ (v : Option Value) (h' : AH), post v h' → WS p la e R s m args below meth c Q D cA B0 nL (pc + 3) l (v.toList ++ r) h' (k + rm.cells) (n + rm.slots)) : WS p la e R s m args below meth c Q D cA B0 nL pc l (av.reverse ++ r) h k n :=
  run_ok (idx := idx) X.2.2.2.2.2.2 (fun H locs ls hH hls => va_runS (fix_ok X) hM ⟨callB_ok X hL hl hR, X.2.2.2.2.1 _ hs⟩ (preS_of X E hH av) rfl rfl hls.1 rfl (lv_room hW) hd hf) kk
theorem callV_ok (X : CX p s m args c D cA B0 nL cc own) (E : EN D cA B0 pa s) {y : MethodName} {bytes : ByteArray} {maxL idx ci b : Nat} {ret : Option FieldType} {rm : Room} {av fs : List Value} {T : u_T} {N : Nat} {post : Option Value → AH → Prop}
    (hM : CT la D cA B0 pa y bytes maxL ret rm (.ref b :: av) h post) (hL : LK y bytes maxL av.length ret) (hl : Cond.methodLink own idx y ∈ WT) (hi : Cond.instanceMethod y ∈ WT) (hse : Cond.selects y.cls y y ∈ WT) (hR : rm.frames + 1 ≤ R.frames ∧ 8 + (maxL + 11) + rm.locals ≤ R.locals) (hf : k + rm.cells ≤ R.cells ∧ n + rm.slots ≤ R.slots)
    (hc : vwCl[ci]? = some (y.cls, T, N)) (hb : h b = some (ci, fs))
    (hW : (r.map fun v => v.category).sum ≤ 8) (hd : decode cc pc = .ok (.invokevirtual idx, 3))
    (kk : ∀ (v : Option Value) (h' : AH), post v h' → WS p la e R s m args below meth c Q D cA B0 nL (pc + 3) l (v.toList ++ r) h' (k + rm.cells) (n + rm.slots)) : WS p la e R s m args below meth c Q D cA B0 nL pc l (av.reverse ++ .ref b :: r) h k n := by
  refine run_ok (idx := idx) (As := (Value.ref b :: av).toArray) X.2.2.2.2.2.2 (fun H locs ls hH hls => va_runV (C := y.cls) (fix_ok X) hM ⟨callB_ok X hL hl hR, X.2.2.2.2.1 _ hi, X.2.2.2.2.1 _ hse⟩ ⟨PC_blind, ?_, (preS_of X E hH (.ref b :: av)).2⟩ rfl rfl hls.1 rfl (lv_room hW) hd hf) kk
  obtain ⟨r1, g0, -, cell, g1, g2, g3, -⟩ := (hH.1 b _ hb).2.1 (vwCl_lt hc)
  exact ⟨cell, g1, by rw [g3]; rfl, by rw [g2]; exact (X.2.2.2.2.2.1.1.1 ci _ hc).2.1⟩
theorem callI_ok (X : CX p s m args c D cA B0 nL cc own) (E : EN D cA B0 pa s) {y : MethodName} {bytes : ByteArray} {maxL idx b : Nat} {rm : Room} {av : List Value} {post : Option Value → AH → Prop}
    (hM : CT la D cA B0 pa y bytes maxL none rm (.ref b :: av) h post) (hL : LK y bytes maxL av.length none) (hl : Cond.methodLink own idx y ∈ WT) (hi : Cond.instanceMethod y ∈ WT) (hn : y.name = "<init>") (hR : rm.frames + 1 ≤ R.frames ∧ 8 + (maxL + 11) + rm.locals ≤ R.locals) (hf : k + rm.cells ≤ R.cells ∧ n + rm.slots ≤ R.slots)
    (hW : (r.map fun v => v.category).sum ≤ 8) (hd : decode cc pc = .ok (.invokespecial idx, 3))
    (kk : ∀ (v : Option Value) (h' : AH), post v h' → WS p la e R s m args below meth c Q D cA B0 nL (pc + 3) l (v.toList ++ r) h' (k + rm.cells) (n + rm.slots)) : WS p la e R s m args below meth c Q D cA B0 nL pc l (av.reverse ++ .ref b :: r) h k n :=
  run_ok (idx := idx) (As := (Value.ref b :: av).toArray) X.2.2.2.2.2.2 (fun H locs ls hH hls => va_runI (fix_ok X) hM ⟨callB_ok X hL hl hR, hn, X.2.2.2.2.1 _ hi⟩ (preS_of X E hH (.ref b :: av)) rfl rfl hls.1 rfl (lv_room hW) hd hf) kk
end CALL
