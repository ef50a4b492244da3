/-! canBe, can: two terms made alike, both ways -/
theorem nc10_165 : NC RX10 165 10 [.null, .null, .null, .int 0, .int 0] := by
  refine ⟨RX8, TX8, 5, tyX8, rfl, cwX8, tyX8_ok, rfl, fun j hj => ?_, WT_of (by decide +kernel) rfl, WT_of (by decide +kernel) rfl, liX8⟩
  match j, hj with
  | 0, _ => rfl
  | 1, _ => rfl
  | 2, _ => rfl
  | 3, _ => rfl
  | 4, _ => rfl
/-- two terms can be made alike: by steps (0), by classes -/
def CanR (one other : List Nat) (x : Int32) : Prop := (x = 0 → ∃ G : GS, goF 40 one other none8 0 0 = some G ∧ G.2.2.1 = 0) ∧ (¬ x = 0 → ∃ ts of' pt, InP (one ++ other) one.length ts of' pt true)
theorem go_cap {one other : List Nat} (t1 : TW one ∧ one.length ≤ 16) (t2 : TW other ∧ other.length ≤ 16) {G : GS} (hG : goF 40 one other none8 0 0 = some G) : 2 + G.2.2.2.1 ≤ 8422 ∧ 11 + G.2.2.2.2 ≤ 97121 := by
  obtain ⟨G', h1, h2, h3, h4, -⟩ := goE t1 t2
  rw [hG] at h1
  cases h1
  exact ⟨by omega, by omega⟩
section M79
variable {la : Launch} {D : va_G} {cA : Nat → ClassId} {B0 pa : Nat}
set_option maxHeartbeats 4000000 in
theorem c_canBe (h : AH) {u1 u2 : Nat} {one other : List Nat} (x : Int32) {C N : Nat} (hC : 37 ≤ C ∧ 709 ≤ N) (hGo : x = 0 → ∀ G : GS, goF 40 one other none8 0 0 = some G → 2 + G.2.2.2.1 ≤ C ∧ 11 + G.2.2.2.2 ≤ N) (hu1 : h u1 = some (IA one)) (hu2 : h u2 = some (IA other)) (t1 : TW one ∧ one.length ≤ 16) (t2 : TW other ∧ other.length ≤ 16) : CT la D cA B0 pa yX10_canBe cX10_canBe 3 (some .boolean) (rmD 85 C N) [.ref u1, .ref u2, .int x] h (fun v h' => ∃ b : Bool, v = some (.int (bI b)) ∧ Ext h h' ∧ (b = true → CanR one other x)) := by
  refine CT_of (by decide +kernel) (Nat.le_of_ble_eq_true rfl) ?_
  intro p e s m args below meth c X E hr hlk hnm
  have dk : ∀ {pc : Nat} {q : Instr × Nat}, lkd DX10_canBe pc = some q → decode cX10_canBe pc = .ok q := lkd_ok DX10_canBe_ok
  refine fst1_ok X (dk rfl) rfl ?_
  refine br_ok X (dk rfl) rfl (show ((1 : Nat) : Int) + 26 = ((27 : Nat) : Int) from rfl) (fun hx => ?_) (fun hx => ?_)
  · obtain ⟨hY, z1, z2⟩ := BY_of t1 t2
    refine new_ok X nc10_165 (dk rfl) (by show 0 + 1 ≤ C; omega) (by show 0 + 5 ≤ N; omega) (fun u hu hBu => ?_)
    have XU := Ext.new hu ((10, [Value.null, .null, .null, .int 0, .int 0]) : AC)
    repeat refine fst1_ok X (dk rfl) rfl ?_
    refine callI_ok (av := [.ref u1, .ref u2]) (r := [.ref u]) X E (c_init8 _ hY (hup_self _ _ _) (by rw [z1]; exact XU _ _ hu1) (by rw [z2]; exact XU _ _ hu2)) lkX8_init mlX10_167 lmX8_init rfl ⟨Nat.le_of_ble_eq_true rfl, Nat.le_of_ble_eq_true rfl⟩ ⟨by show 0 + 1 + 36 ≤ C; omega, by show 0 + 5 + 704 ≤ N; omega⟩ (Nat.le_of_ble_eq_true rfl) (dk rfl) ?_
    rintro v h2 ⟨rfl, ⟨T, O, Q, ts, of', pt, can, M2, hI⟩, F2⟩
    have X2 : Ext h h2 := fun b c e => F2 b c (fun z => by rw [z, hu] at e; cases e) (XU _ _ e)
    refine getfN_ok X E.2.1 fnX10_207 (dk rfl) M2.1 rfl ?_
    exact reti_ok X hr hlk (bI_n can) (dk rfl) ⟨can, rfl, X2, fun hc => ⟨fun z => absurd z hx, fun _ => ⟨ts, of', pt, by rw [← hc]; exact hI⟩⟩⟩ (by show 0 + 1 + 36 ≤ C; omega) (by show 0 + 5 + 704 ≤ N; omega)
  · have hx0 : x = 0 := Decidable.not_not.mp hx
    obtain ⟨G, hG, g1, -⟩ := goE t1 t2
    obtain ⟨g2, g3⟩ := hGo hx0 G hG
    refine new_ok X nc10_157 (dk rfl) (by show 0 + 1 ≤ C; omega) (by show 0 + 3 ≤ N; omega) (fun u hu hBu => ?_)
    have XU := Ext.new hu ((11, [Value.null, .int 0, .int 0]) : AC)
    repeat refine fst1_ok X (dk rfl) rfl ?_
    refine callI_ok (av := [.ref u1, .ref u2]) (r := [.ref u]) X E (c_stepsInit _ (hup_self _ _ _) (XU _ _ hu1) (XU _ _ hu2) t1 t2 hG) lkX9_init mlX10_159 lmX9_init rfl ⟨Nat.le_of_ble_eq_true rfl, Nat.le_of_ble_eq_true rfl⟩ ⟨by show 0 + 1 + (1 + G.2.2.2.1) ≤ C; omega, by show 0 + 3 + (8 + G.2.2.2.2) ≤ N; omega⟩ (Nat.le_of_ble_eq_true rfl) (dk rfl) ?_
    rintro v h2 ⟨rfl, ⟨St, hSt, M2⟩, F2⟩
    have X2 : Ext h h2 := fun b c e => F2 b c (fun z => by rw [z, hu] at e; cases e) (XU _ _ e)
    refine getfN_ok X E.2.1 fnX10_204 (dk rfl) M2.1 rfl ?_
    have kl : 0 + 1 + (1 + G.2.2.2.1) ≤ C ∧ 0 + 3 + (8 + G.2.2.2.2) ≤ N := ⟨by omega, by omega⟩
    refine br_ok X (dk rfl) rfl (show ((16 : Nat) : Int) + 7 = ((23 : Nat) : Int) from rfl) (fun hz => ?_) (fun hz => ?_)
    · refine fst1_ok X (dk rfl) rfl ?_
      refine br_ok X (dk rfl) rfl (show ((24 : Nat) : Int) + 15 = ((39 : Nat) : Int) from rfl) (fun _ => ?_) (fun q => absurd trivial q)
      exact reti_ok X hr hlk (bI_n false) (dk rfl) ⟨false, rfl, X2, fun hc => by cases hc⟩ kl.1 kl.2
    · refine fst1_ok X (dk rfl) rfl ?_
      refine br_ok X (dk rfl) rfl (show ((20 : Nat) : Int) + 19 = ((39 : Nat) : Int) from rfl) (fun _ => ?_) (fun q => absurd trivial q)
      refine reti_ok X hr hlk (bI_n true) (dk rfl) ⟨true, rfl, X2, fun _ => ⟨fun _ => ⟨G, hG, ?_⟩, fun z => absurd hx0 z⟩⟩ kl.1 kl.2
      have hz' : nI G.2.2.1 = nI 0 := Decidable.not_not.mp hz
      exact (nI_eq (by omega) (by omega)).mp hz'
variable {o S A : Nat} {sl : List (List Nat)} {an : List (List (List Nat))} {a r kn th : Int32}
end M79
