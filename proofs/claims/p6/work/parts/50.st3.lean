/-! go, goOn -/
theorem nI_dec (n : Nat) : nI (n + 1) + Int32.ofInt (-1) = nI n := by
  rw [show Int32.ofInt (-1) = -1 by decide, ← Int32.sub_eq_add_neg]
  exact nI_pred n
section M50
variable {la : Launch} {D : va_G} {cA : Nat → ClassId} {B0 pa : Nat} {o9 St : Nat}
/-- go, with as much fuel -/
def GoC (la : Launch) (D : va_G) (cA : Nat → ClassId) (B0 pa o9 St f : Nat) : Prop := ∀ (h : AH) (sm : SM) (mm ww u1 u2 : Nat) (one other : List Nat) (g : GS), SI h o9 St sm mm ww → h u1 = some (IA one) → h u2 = some (IA other) → (TW one ∧ one.length ≤ 16) → (TW other ∧ other.length ≤ 16) → goF f one other sm mm ww = some g →
  CT la D cA B0 pa yX9_go cX9_go 7 none (rmD (2 * f + 3) g.2.2.2.1 g.2.2.2.2) [.ref o9, .ref u1, .ref u2] h (goP o9 St h g)
theorem drop_lt {xs : List Nat} {k i n : Nat} (h : endL (k + 1) (xs.drop i) = some n) : i < xs.length := by
  rcases Nat.lt_or_ge i xs.length with q | q
  · exact q
  · rw [List.drop_eq_nil_of_le q] at h
    simp [endL] at h
/-- the next part of a row -/
theorem next_part {xs : List Nat} (hx : TW xs ∧ xs.length ≤ 16) {k i : Nat} (h : endL (k + 1) (xs.drop i) = some (xs.length - i)) : endL 1 (xs.drop i) = some (tl xs i) ∧ i + tl xs i ≤ xs.length ∧ (TW (sub' xs i) ∧ (sub' xs i).length ≤ 16) ∧ endL k (xs.drop (i + tl xs i)) = some (xs.length - (i + tl xs i)) := by
  have hi := drop_lt h
  obtain ⟨g1, g2, g3, g4, g5⟩ := sub_ok hx.1 hx.2 hi
  refine ⟨g1, g3, ⟨g4, by omega⟩, ?_⟩
  rw [Nat.add_comm k 1] at h
  obtain ⟨k1, e1, e2, e3⟩ := endL_add _ _ _ _ h
  cases e1.symm.trans g1
  rw [List.drop_drop] at e3
  rw [e3]
  congr 1
  omega
set_option maxHeartbeats 16000000 in
theorem c_goOn {f : Nat} (IH : GoC la D cA B0 pa o9 St f) (h : AH) {sm : SM} {mm ww u1 u2 x : Nat} {a b : List Nat} {G : GS} (M : SI h o9 St sm mm ww) (hu1 : h u1 = some (IA a)) (hu2 : h u2 = some (IA b)) (ta : TW a ∧ a.length ≤ 16) (tb : TW b ∧ b.length ≤ 16) (ha0 : a[0]? = some x) (hb0 : b[0]? = some x) (hG : goOnF (goF f) (pF x) a b 1 1 sm mm ww = some G) :
    CT la D cA B0 pa yX9_goOn cX9_goOn 6 none (rmD (2 * f + 4) G.2.2.2.1 G.2.2.2.2) [.ref o9, .ref u1, .ref u2] h (goP o9 St h G) := by
  refine CT_of (by decide +kernel) (Nat.le_of_ble_eq_true rfl) ?_
  intro p e s m args below meth c X E hr hlk hnm
  have dk : ∀ {pc : Nat} {q : Instr × Nat}, lkd DX9_goOn pc = some q → decode cX9_goOn pc = .ok q := lkd_ok DX9_goOn_ok
  obtain ⟨Gs, Gm, Gw, Gc, Gn⟩ := G
  have hx18 := (ta.1.2 x (List.mem_of_getElem? ha0)).lt
  have first : ∀ {xs : List Nat}, TW xs → xs[0]? = some x → endL (pF x) (xs.drop 1) = some (xs.length - 1) := by
    intro xs hx h0
    cases xs with
    | nil => simp at h0
    | cons y r =>
      cases h0
      have h1 := hx.1
      simp only [endL, Option.map_eq_some_iff, Nat.zero_add] at h1
      obtain ⟨j, hj, hj2⟩ := h1
      rw [List.drop_succ_cons, List.drop_zero, hj]
      congr 1
      simp only [List.length_cons] at hj2 ⊢
      omega
  have loop : ∀ (kk i j : Nat) (sm : SM) (m1 w1 : Nat) (c1 n1 : Nat) (hh : AH) (k0 n0 : Nat) (l : List (Nat × Value)), kk < 2 ^ 20 → lsel l [5, 4, 3, 2, 1, 0] = [(5, vI kk), (4, vI j), (3, vI i), (2, .ref u2), (1, .ref u1), (0, .ref o9)] → i ≤ a.length → j ≤ b.length → endL kk (a.drop i) = some (a.length - i) → endL kk (b.drop j) = some (b.length - j) → SI hh o9 St sm m1 w1 → Fs o9 St h hh →
      goOnF (goF f) kk a b i j sm m1 w1 = some (Gs, Gm, Gw, c1, n1) → k0 + c1 = Gc → n0 + n1 = Gn → WR p la e (rmD (2 * f + 4) Gc Gn) s m args below meth c D cA B0 6 (goP o9 St h (Gs, Gm, Gw, Gc, Gn)) 13 l [] hh k0 n0 := by
    intro kk
    induction kk with
    | zero =>
      intro i j sm m1 w1 c1 n1 hh k0 n0 l hkk hl hi hj hea heb MM FF hgo hk hn
      simp only [goOnF, Option.some.injEq, Prod.mk.injEq] at hgo
      obtain ⟨rfl, rfl, rfl, rfl, rfl⟩ := hgo
      refine WS.sel [5, 4, 3, 2, 1, 0] hl ?_
      repeat refine fst1_ok X (dk rfl) rfl ?_
      refine br_ok X (dk rfl) rfl (show ((15 : Nat) : Int) + 38 = ((53 : Nat) : Int) from rfl) (fun _ => ?_) (fun q => absurd (by decide) q)
      exact retv_ok X hr hlk (dk rfl) ⟨rfl, MM, FF⟩ (by show k0 ≤ Gc; omega) (by show n0 ≤ Gn; omega)
    | succ kk ih =>
      intro i j sm m1 w1 c1 n1 hh k0 n0 l hkk hl hi hj hea heb MM FF hgo hk hn
      obtain ⟨a1, a2, a3, a4⟩ := next_part ta hea
      obtain ⟨b1, b2, b3, b4⟩ := next_part tb heb
      unfold goOnF at hgo
      cases hg1 : goF f (sub' a i) (sub' b j) sm m1 w1 with
      | none => rw [hg1] at hgo; cases hgo
      | some g1 =>
        obtain ⟨s2, m2, w2, c2, n2⟩ := g1
        rw [hg1] at hgo
        dsimp only at hgo
        cases hg2 : goOnF (goF f) kk a b (i + tl a i) (j + tl b j) s2 m2 w2 with
        | none => rw [hg2] at hgo; cases hgo
        | some g2 =>
          obtain ⟨s3, m3, w3, c3, n3⟩ := g2
          rw [hg2] at hgo
          simp only [Option.some.injEq, Prod.mk.injEq] at hgo
          obtain ⟨rfl, rfl, rfl, e4, e5⟩ := hgo
          have hu1h := IA_fs M FF hu1
          have hu2h := IA_fs M FF hu2
          refine WS.sel [5, 4, 3, 2, 1, 0] hl ?_
          repeat refine fst1_ok X (dk rfl) rfl ?_
          refine br_ok X (dk rfl) rfl (show ((15 : Nat) : Int) + 38 = ((53 : Nat) : Int) from rfl) (fun q => absurd q (nI_nle (by omega) (by omega))) (fun _ => ?_)
          repeat refine fst1_ok X (dk rfl) rfl ?_
          refine callSN_ok (av := [.ref u1, vI i]) (r := [.ref o9]) X E (c_at hh hu1h ta.1.lt (by omega) a1) lkX10_at mnX9_57 lsX10_at ⟨by show 2 + 1 ≤ 2 * f + 4; omega, by show 8 + (2 + 11) + 40 * 2 ≤ 40 * (2 * f + 4); omega⟩ ⟨by show k0 + 1 ≤ Gc; omega, by show n0 + tl a i ≤ Gn; omega⟩ (Nat.le_of_ble_eq_true rfl) (dk rfl) ?_
          rintro v h2 ⟨q1, rfl, hq1, hB1, rfl⟩
          have X1 := Ext.new hq1 (IA ((a.drop i).take (tl a i)))
          repeat refine fst1_ok X (dk rfl) rfl ?_
          refine callSN_ok (av := [.ref u2, vI j]) (r := [.ref q1, .ref o9]) X E (c_at _ (X1 _ _ hu2h) tb.1.lt (by omega) b1) lkX10_at mnX9_57 lsX10_at ⟨by show 2 + 1 ≤ 2 * f + 4; omega, by show 8 + (2 + 11) + 40 * 2 ≤ 40 * (2 * f + 4); omega⟩ ⟨by show k0 + 1 + 1 ≤ Gc; omega, by show n0 + tl a i + tl b j ≤ Gn; omega⟩ (Nat.le_of_ble_eq_true rfl) (dk rfl) ?_
          rintro v h3 ⟨q2, rfl, hq2, hB2, rfl⟩
          have X2 := X1.trans (Ext.new hq2 (IA ((b.drop j).take (tl b j))))
          refine callV_ok (ci := 11) (T := TX9) (N := 3) (av := [.ref q1, .ref q2]) (r := []) X E (IH _ sm m1 w1 q1 q2 (sub' a i) (sub' b j) _ (MM.ext X2) (Ext.new hq2 _ _ _ (hup_self _ _ _)) (hup_self _ _ _) a3 b3 hg1) lkX9_go mlX9_17 lmX9_go lpX9_go ⟨by show 2 * f + 3 + 1 ≤ 2 * f + 4; omega, by show 8 + (7 + 11) + 40 * (2 * f + 3) ≤ 40 * (2 * f + 4); omega⟩ ⟨by show k0 + 1 + 1 + c2 ≤ Gc; omega, by show n0 + tl a i + tl b j + n2 ≤ Gn; omega⟩ rfl (MM.ext X2).1 (Nat.le_of_ble_eq_true rfl) (dk rfl) ?_
          rintro v h4 ⟨rfl, M4, F4⟩
          have FF4 : Fs o9 St h h4 := (FF.trans (Fs.ext X2)).trans F4
          refine WS.widen (k' := k0 + 2 + c2) (n' := n0 + tl a i + tl b j + n2) (by show k0 + 1 + 1 + c2 ≤ k0 + 2 + c2; omega) (by show n0 + tl a i + tl b j + n2 ≤ n0 + tl a i + tl b j + n2; omega) ?_
          refine fst1_ok X (dk rfl) rfl ?_
          refine fst1_ok X (dk rfl) rfl ?_
          refine callSN_ok (av := [.ref u1, vI i]) (r := []) X E (c_end h4 (IA_fs M FF4 hu1) ta.1.lt (by omega) a1) lkX10_end mnX9_61 lsX10_end ⟨by show 1 + 1 ≤ 2 * f + 4; omega, by show 8 + (4 + 11) + 40 * 1 ≤ 40 * (2 * f + 4); omega⟩ ⟨by show k0 + 2 + c2 + 0 ≤ Gc; omega, by show n0 + tl a i + tl b j + n2 + 0 ≤ Gn; omega⟩ (Nat.le_of_ble_eq_true rfl) (dk rfl) ?_
          rintro v h5 ⟨rfl, rfl⟩
          repeat refine fst1_ok X (dk rfl) rfl ?_
          refine callSN_ok (av := [.ref u2, vI j]) (r := []) X E (c_end h5 (IA_fs M FF4 hu2) tb.1.lt (by omega) b1) lkX10_end mnX9_61 lsX10_end ⟨by show 1 + 1 ≤ 2 * f + 4; omega, by show 8 + (4 + 11) + 40 * 1 ≤ 40 * (2 * f + 4); omega⟩ ⟨by show k0 + 2 + c2 + 0 + 0 ≤ Gc; omega, by show n0 + tl a i + tl b j + n2 + 0 + 0 ≤ Gn; omega⟩ (Nat.le_of_ble_eq_true rfl) (dk rfl) ?_
          rintro v h6 ⟨rfl, rfl⟩
          repeat refine fst1_ok X (dk rfl) rfl ?_
          refine br_ok X (dk rfl) rfl (show ((50 : Nat) : Int) + (-37) = ((13 : Nat) : Int) from rfl) (fun _ => ?_) (fun q => absurd trivial q)
          have f2 : Value.int (nI (kk + 1) + Int32.ofInt (-1)) = vI kk := congrArg Value.int (nI_dec kk)
          refine WS.sel (l' := [(5, vI kk), (4, vI (j + tl b j)), (3, vI (i + tl a i)), (2, .ref u2), (1, .ref u1), (0, .ref o9)]) [5, 4, 3, 2, 1, 0] (by rw [← f2]; rfl) ?_
          exact ih (i + tl a i) (j + tl b j) s2 m2 w2 c3 n3 h6 _ _ _ (by omega) rfl a2 b2 a4 b4 M4 FF4 hg2 (by show k0 + 2 + c2 + 0 + 0 + c3 = Gc; omega) (by show n0 + tl a i + tl b j + n2 + 0 + 0 + n3 = Gn; omega)
  repeat refine fst1_ok X (dk rfl) rfl ?_
  refine ald_ok X (Or.inl ⟨rfl, rfl⟩) (dk rfl) hu1 (inA_nI (j := 0) (by omega) (IA_get ha0)) ?_
  refine callSN_ok (av := [vI x]) (r := []) X E (c_parts h (x := x) (by omega)) lkX10_parts mnX9_53 lsX10_parts ⟨by show 0 + 1 ≤ 2 * f + 4; omega, by show 8 + (1 + 11) + 40 * 0 ≤ 40 * (2 * f + 4); omega⟩ ⟨by show 0 + 0 ≤ Gc; omega, by show 0 + 0 ≤ Gn; omega⟩ (Nat.le_of_ble_eq_true rfl) (dk rfl) ?_
  rintro v h' ⟨rfl, rfl⟩
  refine fst1_ok X (dk rfl) rfl ?_
  exact loop (pF x) 1 1 sm mm ww Gc Gn h' _ _ _ (pF_le x (by omega)) rfl ta.1.pos tb.1.pos (first ta.1 ha0) (first tb.1 hb0) M (Fs.rf _) hG (Nat.zero_add _) (Nat.zero_add _)
end M50
