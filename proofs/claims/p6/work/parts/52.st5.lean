/-! Object's constructor, the constructor of steps -/
theorem li_obj : Cond.instanceMethod Lib.objectInit ∈ WT := WT_of (tbw_1 (List.mem_of_getElem? (i := 35) rfl)) rfl
theorem lc_obj : Cond.code Lib.objectInit ⟨#[0xb1]⟩ 1 none ∈ WT := WT_of (tbw_1 (List.mem_of_getElem? (i := 36) rfl)) rfl
theorem ml9_obj : Cond.methodLink RX9 3 Lib.objectInit ∈ WT := WT_of (tbw_7 (List.mem_of_getElem? (i := 27) rfl)) rfl
theorem ml8_obj : Cond.methodLink RX8 3 Lib.objectInit ∈ WT := WT_of (tbw_7 (List.mem_of_getElem? (i := 71) rfl)) rfl
theorem ml10_obj : Cond.methodLink RX10 1 Lib.objectInit ∈ WT := WT_of (tbw_6 (List.mem_of_getElem? (i := 77) rfl)) rfl
theorem cl9_9 : Cond.classLink RX9 9 (cnm (aty 105)) ∈ WT := by rw [aty105]; exact WT_of (tbw_7 (List.mem_of_getElem? (i := 28) rfl)) rfl
section M52
variable {p : Program} {la : Launch} {e : Env} {R : Room} {s : State} {m : MethodId} {args : Array Value} {below : List Frame} {meth : Method} {c : Code} {Q : State → Prop}
variable {D : va_G} {cA : Nat → ClassId} {B0 pa nL : Nat} {cc : ByteArray} {own : String} {pc k n : Nat} {l : List (Nat × Value)} {r : List Value} {h : AH}
theorem obj_ok (X : CX p s m args c D cA B0 nL cc own) {idx a : Nat} (hl : Cond.methodLink own idx Lib.objectInit ∈ WT) (hd : decode cc pc = .ok (.invokespecial idx, 3)) (hfr : 1 ≤ R.frames) (hW : (r.map fun v => v.category).sum ≤ 8) (hlo : 20 ≤ R.locals)
    (kk : WS p la e R s m args below meth c Q D cA B0 nL (pc + 3) l r h k n) : WS p la e R s m args below meth c Q D cA B0 nL pc l (.ref a :: r) h k n := by
  intro H locs ls hH hls
  have hm := lv_room (m := m) (pc := pc) (ls := ls) (rest := (.ref a :: r)) (st := r) hW
  exact W.objInit X.1 X.2.1 X.2.2.2.1 (X.2.2.2.2.1 _ hl) (X.2.2.2.2.1 _ li_obj) (X.2.2.2.2.1 _ lc_obj) rfl (X.2.2.1.trans hls.1.symm).symm rfl hd hfr (by omega) (kk H locs ls hH hls)
end M52
section M52b
variable {la : Launch} {D : va_G} {cA : Nat → ClassId} {B0 pa : Nat}
def none8 : SM := List.replicate 8 none
theorem TT_none8 : TT none8 := ⟨by simp [none8], fun r hr => by simp [none8] at hr⟩
/-- outside one cell all stays -/
def Fo (o : Nat) (h h' : AH) : Prop := ∀ (b : Nat) (c : AC), b ≠ o → h b = some c → h' b = some c
set_option maxHeartbeats 8000000 in
theorem c_stepsInit (h : AH) {o9 u1 u2 F : Nat} {one other : List Nat} {G : GS} (ho : h o9 = some (11, [.null, .int 0, .int 0])) (hu1 : h u1 = some (IA one)) (hu2 : h u2 = some (IA other)) (t1 : TW one ∧ one.length ≤ 16) (t2 : TW other ∧ other.length ≤ 16) (hG : goF F one other none8 0 0 = some G) :
    CT la D cA B0 pa yX9_init cX9_init 3 none (rmD (2 * F + 4) (1 + G.2.2.2.1) (8 + G.2.2.2.2)) [.ref o9, .ref u1, .ref u2] h (fun v h' => v = none ∧ (∃ St, h St = none ∧ SI h' o9 St G.1 G.2.1 G.2.2.1) ∧ Fo o9 h h') := by
  refine CT_of (by decide +kernel) (Nat.le_of_ble_eq_true rfl) ?_
  intro p e s m args below meth c X E hr hlk hnm
  have dk : ∀ {pc : Nat} {q : Instr × Nat}, lkd DX9_init pc = some q → decode cX9_init pc = .ok q := lkd_ok DX9_init_ok
  repeat refine fst1_ok X (dk rfl) rfl ?_
  refine obj_ok X ml9_obj (dk rfl) (by show 1 ≤ 2 * F + 4; omega) (Nat.le_of_ble_eq_true rfl) (by show 20 ≤ 40 * (2 * F + 4); omega) ?_
  repeat refine fst1_ok X (dk rfl) rfl ?_
  refine newR_ok (N := 8) (kd := 105) X E (by decide) cl9_9 (by decide) (dk rfl) (by show 0 + 1 ≤ 1 + G.2.2.2.1; omega) (by show 0 + 8 ≤ 8 + G.2.2.2.2; omega) (fun T hT hBT => ?_)
  have XT := Ext.new hT ((105, List.replicate 8 Value.null) : AC)
  refine putf_ok X flX9_11 ftX9_0 (Or.inr ⟨by rw [hnm]; rfl, RX9, TX9, 3, rfl, rfl⟩) rfl rfl (dk rfl) (XT _ _ ho) (Nat.le_of_ble_eq_true rfl) ?_
  have hoT : T ≠ o9 := fun z => by rw [z, ho] at hT; cases hT
  have M0 : SI (hup (hup h T (105, List.replicate 8 Value.null)) o9 (11, [Value.null, .int 0, .int 0].set 0 (.ref T))) o9 T none8 0 0 := by
    refine ⟨hup_self _ _ _, ⟨List.replicate 8 none, by simp, by simp [none8], ?_, fun k r hk => ?_, fun k hk => ?_⟩, TT_none8, by decide⟩
    · rw [hup_ne _ _ hoT, hup_self]
      rfl
    · exact absurd (List.mem_of_getElem? hk) (by simp [none8])
    · have h8 : k < 8 := by simpa [none8] using (List.getElem?_eq_some_iff.mp hk).1
      rw [List.getElem?_replicate, if_pos h8]
  have F0' : Fo o9 h (hup (hup h T (105, List.replicate 8 Value.null)) o9 (11, [Value.null, .int 0, .int 0].set 0 (.ref T))) := fun b c hb e => by
    rw [hup_ne _ _ hb]
    exact XT _ _ e
  generalize hup (hup h T (105, List.replicate 8 Value.null)) o9 (11, [Value.null, .int 0, .int 0].set 0 (.ref T)) = h1 at M0 F0'
  have k1 := F0' u1 _ (k_ne hu1 ho (by decide)) hu1
  have k2 := F0' u2 _ (k_ne hu2 ho (by decide)) hu2
  repeat refine fst1_ok X (dk rfl) rfl ?_
  refine callV_ok (ci := 11) (T := TX9) (N := 3) (av := [.ref u1, .ref u2]) (r := []) X E (c_go F h1 none8 0 0 u1 u2 one other G M0 k1 k2 t1 t2 hG) lkX9_go mlX9_17 lmX9_go lpX9_go ⟨by show 2 * F + 3 + 1 ≤ 2 * F + 4; omega, by show 8 + (7 + 11) + 40 * (2 * F + 3) ≤ 40 * (2 * F + 4); omega⟩ ⟨by show 0 + 1 + G.2.2.2.1 ≤ 1 + G.2.2.2.1; omega, by show 0 + 8 + G.2.2.2.2 ≤ 8 + G.2.2.2.2; omega⟩ rfl M0.1 (Nat.le_of_ble_eq_true rfl) (dk rfl) ?_
  rintro v h2 ⟨rfl, M2, F2⟩
  refine retv_ok X hr hlk (dk rfl) ⟨rfl, ⟨T, hT, M2⟩, fun b c hb e => ?_⟩ (by show 0 + 1 + G.2.2.2.1 ≤ 1 + G.2.2.2.1; omega) (by show 0 + 8 + G.2.2.2.2 ≤ 8 + G.2.2.2.2; omega)
  exact F2 b c hb (fun z => by rw [z, hT] at e; cases e) (F0' b c hb e)
end M52b
