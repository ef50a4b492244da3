section Ue04rf4
/-! alike of the reference, exactly (printed by wip/p20/genE4.py) -/
theorem exMin {A : Nat → Prop} {f : Nat → Nat} : ∀ (n q : Nat), f q ≤ n → A q → ∃ q', A q' ∧ ∀ z, A z → f q' ≤ f z := by
  intro n
  induction n with
  | zero => intro q h hq; exact ⟨q, hq, fun z _ => by omega⟩
  | succ n ih =>
    intro q h hq
    by_cases c : ∃ z, A z ∧ f z < f q
    · obtain ⟨z, h1, h2⟩ := c
      exact ih z (by omega) h1
    · refine ⟨q, hq, fun z hz => ?_⟩
      rcases Nat.lt_or_ge (f z) (f q) with d | d
      · exact absurd ⟨z, hz, d⟩ c
      · exact d
theorem SKP.ex {X : List Nat} {n1 : Nat} (hX : BX X) {k : Nat → Nat} (G : GdK X n1 k) : ∃ S, SKP X k S := by
  have one : ∀ x, ∃ oo : Option Nat, (∀ q, oo = some q → x < 8 ∧ q < X.length ∧ ∃ u, u < X.length ∧ gl X u = x ∧ k u = k q ∧ (10 ≤ gl X q ∨ (gl X q < x ∧ ∀ z, z < X.length → k z = k q → gl X q ≤ gl X z ∧ gl X z < 10))) ∧ (oo = none → ∀ u, u < X.length → gl X u = x → gl X u < 10 → ∀ z, z < X.length → k z = k u → gl X u ≤ gl X z ∧ gl X z < 10) := fun x => by
    by_cases c : ∃ u, u < X.length ∧ gl X u = x ∧ gl X u < 10
    · obtain ⟨u, hu, hx, h10⟩ := c
      have h8 := gl_8 hX hu h10
      have same : ∀ u', u' < X.length → gl X u' = x → k u' = k u := fun u' hu' e' => G.2.1 u' u hu' hu (by rw [name_sub hX hu' (by omega), name_sub hX hu h10, e', hx])
      by_cases d : ∃ q, q < X.length ∧ k q = k u ∧ 10 ≤ gl X q
      · obtain ⟨q, h1, h2, h3⟩ := d
        exact ⟨some q, fun q' e => by cases e; exact ⟨by omega, h1, u, hu, hx, h2.symm, Or.inl h3⟩, fun e => by cases e⟩
      · have nh : ∀ z, z < X.length → k z = k u → gl X z < 10 := fun z hz ez => by
          rcases Nat.lt_or_ge (gl X z) 10 with w | w
          · exact w
          · exact absurd ⟨z, hz, ez, w⟩ d
        obtain ⟨q, ⟨h1, h2⟩, h3⟩ := exMin (A := fun q => q < X.length ∧ k q = k u) (f := gl X) (gl X u) u (Nat.le_refl _) ⟨hu, rfl⟩
        by_cases w : gl X q < x
        · exact ⟨some q, fun q' e => by cases e; exact ⟨by omega, h1, u, hu, hx, h2.symm, Or.inr ⟨w, fun z hz ez => ⟨h3 z ⟨hz, by rw [ez, h2]⟩, nh z hz (by rw [ez, h2])⟩⟩⟩, fun e => by cases e⟩
        · refine ⟨none, fun q' e => (by cases e), fun _ u' hu' e' _ z hz ez => ?_⟩
          have ez2 : k z = k u := by rw [ez, same u' hu' e']
          have := h3 z ⟨hz, ez2⟩
          exact ⟨by omega, nh z hz ez2⟩
    · exact ⟨none, fun q e => (by cases e), fun _ u hu e h10 => absurd ⟨u, hu, e, h10⟩ c⟩
  obtain ⟨S, hS⟩ := Classical.axiomOfChoice one
  exact ⟨S, fun x q e => (hS x).1 q e, fun u hu h10 e => (hS _).2 e u hu rfl h10⟩
theorem InP.can {X : List Nat} {n1 : Nat} (hY : BY X n1) {ts : List (List Nat)} {of' pt : List Nat} {can : Bool} (H : InP X n1 ts of' pt can) : (can = true → MnK X n1 (oK X of') ∧ AcK X (oK X of')) ∧ ((∃ k, MnK X n1 k ∧ AcK X k) → can = true) := by
  obtain ⟨rfl, x1, p1, j1, i0, i1, c1, g, a1, a2, a3, a4, a5, a6⟩ := H
  obtain ⟨m1, m2⟩ := joinF_mn hY x1 a1 a2 a3
  constructor
  · intro hc
    rw [a6, Bool.and_eq_true, Bool.not_eq_true'] at hc
    exact ⟨m1 hc.1, (round_ok hY.1 x1 (m1 hc.1) a4 a5).mp hc.2⟩
  · rintro ⟨k, M, A⟩
    have hc := m2 ⟨k, M.1⟩
    have M' := m1 hc
    rw [a6, hc, (round_ok hY.1 x1 M' a4 a5).mpr (AcK.of M M' A)]
    rfl
theorem PEc.of {one other : List Nat} (t1 : TW one ∧ one.length ≤ 16) (t2 : TW other ∧ other.length ≤ 16) {k : Nat → Nat} (M : MnK (one ++ other) one.length k) (A : AcK (one ++ other) k) : ∃ E, PEc one other E := by
  obtain ⟨bY, -, -⟩ := BY_of t1 t2
  obtain ⟨S, H⟩ := SKP.ex bY.1 M.1
  obtain ⟨E, hE⟩ := ExP.ex bY.1 H.s1 (H.ac bY.1 M.1 A)
  exact ⟨E, k, S, M, A, H, hE⟩
theorem SKP.non {X : List Nat} {k : Nat → Nat} {S : SS} (H : SKP X k S) {x : Nat} (h : ¬ ∃ u, u < X.length ∧ gl X u = x) : S x = none := by
  cases e : S x with
  | none => rfl
  | some q =>
    obtain ⟨-, -, u, h1, h2, -⟩ := H.1 x q e
    exact absurd ⟨u, h1, h2⟩ h
/-- the rows of the reference's classes -/
theorem an_rows {X : List Nat} {n1 : Nat} (hX : BX X) {pt of' : List Nat} (HP : PtX (tsN X X.length) pt (tsN X X.length).length 0) {S : SS} (H : SKP X (oK X of') S) (G : GdK X n1 (oK X of')) (A : AcK X (oK X of')) {E : Nat → List Nat} (hE : ExP X S E) {F C N C' N' : Nat} {r : Option (List (List Nat))} (h : anF (tsN X X.length) of' pt F (tsN X X.length).length 0 [[0], [1], [2], [3], [4], [5], [6], [7]] C N = some (r, C', N')) :
    (r = none ∧ ∃ x, x < 8 ∧ 16 < (E x).length) ∨ r = some ((List.range 8).map E) := by
  have hx0 : ∀ x, x < 8 → ([[0], [1], [2], [3], [4], [5], [6], [7]] : List (List Nat)).getD x [] = [x] := by decide
  have nE : ∀ x, (¬ ∃ u, u < X.length ∧ gl X u = x) → E x = [x] := fun x hx => by
    have := hE x
    rw [H.non hx] at this
    exact this
  obtain ⟨k1, k2⟩ := anF_rel hX HP H G A hE (tsN X X.length).length 0 _ C N r C' N' (Nat.zero_add _) rfl (fun x hx => by
    by_cases c : ∃ u, u < X.length ∧ gl X u = x
    · obtain ⟨u, hu, rfl⟩ := c
      exact Or.inr ⟨hx0 _ hx, nuX X u, Nat.zero_le _, by rw [Nat.zero_add]; exact nuX_lt X hu, nuX_hd hX hu⟩
    · exact Or.inl (by rw [hx0 x hx, nE x c])) h
  by_cases hl : ∀ x, x < 8 → (E x).length ≤ 16
  · exact Or.inr (k1 hl)
  · obtain ⟨x, hx⟩ := Classical.not_forall.mp hl
    obtain ⟨hx8, hx16⟩ := Classical.not_imp.mp hx
    refine Or.inl ⟨k2 ?_, x, hx8, by omega⟩
    by_cases c : ∃ u, u < X.length ∧ gl X u = x
    · obtain ⟨u, hu, rfl⟩ := c
      have e := nuX_hd hX hu
      exact ⟨nuX X u, Nat.zero_le _, by rw [Nat.zero_add]; exact nuX_lt X hu, by rw [e]; exact hx8, by rw [e]; omega⟩
    · rw [nE x c] at hx16
      exact absurd (Nat.le_of_ble_eq_true rfl) hx16
theorem wh_one {X : List Nat} (hX : BX X) {S : SS} (hS : S1 X S) (hA : Ac X S) {E : Nat → List Nat} (hE : ExP X S E) {f i C N : Nat} {r : List Nat} (hi : i < 8) (h : whF f (smO X S) [i] 0 = some (r, C, N)) : ((E i).length ≤ 16 → r = E i) ∧ (16 < (E i).length → 16 < r.length) := by
  have k := wh_rel hX hS hA hE f [i] 0 r C N (fun y hy => by rw [List.mem_singleton.mp hy]; exact Or.inl hi) h
  have e : ([i] : List Nat).take 0 ++ exF E (([i] : List Nat).drop 0) = E i := by
    rw [List.take_zero, List.drop_zero, exF_cons]
    unfold exN
    rw [if_pos (by omega)]
    exact (List.nil_append _).trans (List.append_nil _)
  rw [e] at k
  exact k
theorem how_in {x : Int32} (h : x = 0 ∨ x = 1) : inN 2 x := by
  rcases h with rfl | rfl
  · exact ⟨0, by decide, by decide⟩
  · exact ⟨1, by decide, by decide⟩
theorem in_how {j : Nat} (h : j < 2) : nI j = 0 ∨ nI j = 1 := by
  rcases Nat.lt_or_ge j 1 with c | c
  · exact Or.inl (by rw [show j = 0 by omega]; decide)
  · exact Or.inr (by rw [show j = 1 by omega]; decide)
theorem toldS_some (k : Nat) (rows : List (List Nat)) (st : ST) : toldS k (some rows) st = becA k rows st := rfl
theorem becA_long {E : Nat → List Nat} (h : ∃ x, x < 8 ∧ 16 < (E x).length) (k : Nat) (st : ST) : becA k ((List.range 8).map E) st = noS st := by
  obtain ⟨x, h1, h2⟩ := h
  exact if_pos (List.any_eq_true.mpr ⟨E x, List.mem_map.mpr ⟨x, List.mem_range.mpr h1, rfl⟩, decide_eq_true h2⟩)
/-- null because a row is too long; or eight new rows, as whole tells them -/
def RF.ansX (B0 : Nat) (h : AH) (f : Nat) (sm : SM) (v : Option Value) (h' : AH) : Prop := (v = some .null ∧ Ext h h' ∧ ∃ i, i < 8 ∧ ∃ r c n, whF f sm [i] 0 = some (r, c, n) ∧ 16 < r.length) ∨ ∃ rows, (∀ k, k < 8 → ∃ r c n, rows[k]? = some r ∧ whF f sm [k] 0 = some (r, c, n)) ∧ AO rows ∧ newR B0 h rows v h'
section E4a
variable {la : Launch} {D : va_G} {cA : Nat → ClassId} {B0 pa : Nat} {o9 St : Nat} {sm : SM} {mm ww : Nat}
set_option maxHeartbeats 16000000 in
theorem RF.c_stAnswer (h : AH) (M : SI h o9 St sm mm ww) {f C N : Nat} (HW : ∀ k, k < 8 → ∃ r c n, whF f sm [k] 0 = some (r, c, n) ∧ c ≤ C ∧ n ≤ N) : CT la D cA B0 pa yX9_answer cX9_answer 3 (some (.array (.array .int))) (rmD 2 (1 + 8 * (1 + C)) (8 + 8 * (1 + N))) [.ref o9] h (ansX B0 h f sm) := by
  refine CT_of (by decide +kernel) (Nat.le_of_ble_eq_true rfl) ?_
  intro p e s m args below meth c X E hr hlk hnm
  have dk : ∀ {pc : Nat} {q : Instr × Nat}, lkd DX9_answer pc = some q → decode cX9_answer pc = .ok q := lkd_ok DX9_answer_ok
  refine fst1_ok X (dk rfl) rfl ?_
  refine newR_ok (N := 8) (kd := 105) X E (by decide) cl9_9 (by decide) (dk rfl) (by show 0 + 1 ≤ 1 + 8 * (1 + C); omega) (by show 0 + 8 ≤ 8 + 8 * (1 + N); omega) (fun T hT hBT => ?_)
  have loop : ∀ (d i : Nat), d = 8 - i → i ≤ 8 → ∀ (hh : AH) (as : List Nat) (rows : List (List Nat)) (l : List (Nat × Value)), lsel l [2, 1, 0] = [(2, vI i), (1, .ref T), (0, .ref o9)] → as.length = i → rows.length = i → hh T = some (105, filR as 8) → (∀ (k b : Nat) (r : List Nat), as[k]? = some b → rows[k]? = some r → hh b = some (IA r)) → (∀ r ∈ rows, TW r ∧ r.length ≤ 16) → (∀ k, k < i → ∃ r c n, rows[k]? = some r ∧ whF f sm [k] 0 = some (r, c, n)) → Ext h hh →
      WR p la e (rmD 2 (1 + 8 * (1 + C)) (8 + 8 * (1 + N))) s m args below meth c D cA B0 3 (ansX B0 h f sm) 8 l [] hh (1 + i * (1 + C)) (8 + i * (1 + N)) := by
    intro d
    induction d with
    | zero =>
      intro i hd hi hh as rows l hl ha hrl hTh has hro hwr XX
      have hi2 : i = 8 := by omega
      subst hi2
      refine WS.sel [2, 1, 0] hl ?_
      repeat refine fst1_ok X (dk rfl) rfl ?_
      refine br_ok X (dk rfl) rfl (show ((11 : Nat) : Int) + 28 = ((39 : Nat) : Int) from rfl) (fun _ => ?_) (fun c1 => absurd (by decide) c1)
      refine fst1_ok X (dk rfl) rfl ?_
      exact reta_ok X hr hlk (Or.inr ⟨_, rfl⟩) (Or.inr ⟨_, rfl⟩) (dk rfl) (Or.inr ⟨rows, hwr, ⟨hrl, hro⟩, T, rfl, hT, hBT, XX, as, by omega, by rw [hTh, ← ha, filR_end], has⟩) (Nat.le_refl _) (Nat.le_refl _)
    | succ d ih =>
      intro i hd hi hh as rows l hl ha hrl hTh has hro hwr XX
      obtain ⟨r, c1, n1, hw, hc, hn⟩ := HW i (by omega)
      have f2 : Value.int (nI i + Int32.ofInt 1) = vI (i + 1) := congrArg Value.int (by rw [nI_1', nI_add])
      have q1 : 1 + i * (1 + C) + (1 + C) ≤ 1 + 8 * (1 + C) := by
        have := Nat.mul_le_mul_right (1 + C) (show i + 1 ≤ 8 by omega)
        rw [Nat.add_mul, Nat.one_mul] at this
        omega
      have q2 : 8 + i * (1 + N) + (1 + N) ≤ 8 + 8 * (1 + N) := by
        have := Nat.mul_le_mul_right (1 + N) (show i + 1 ≤ 8 by omega)
        rw [Nat.add_mul, Nat.one_mul] at this
        omega
      have q3 : 1 + i * (1 + C) + (1 + C) = 1 + (i + 1) * (1 + C) := by rw [Nat.add_mul i 1, Nat.one_mul, Nat.add_assoc]
      have q4 : 8 + i * (1 + N) + (1 + N) = 8 + (i + 1) * (1 + N) := by rw [Nat.add_mul i 1, Nat.one_mul, Nat.add_assoc]
      refine WS.sel [2, 1, 0] hl ?_
      repeat refine fst1_ok X (dk rfl) rfl ?_
      refine br_ok X (dk rfl) rfl (show ((11 : Nat) : Int) + 28 = ((39 : Nat) : Int) from rfl) (fun c1 => absurd c1 (nI_ge (a := i) (b := 8) (by omega) (by omega))) (fun _ => ?_)
      repeat refine fst1_ok X (dk rfl) rfl ?_
      refine callSN_ok (av := [vI i]) (r := [.ref o9, vI i, .ref T]) X E (c_row hh i) lkX10_row mnX9_73 lsX10_row ⟨Nat.le_of_ble_eq_true rfl, Nat.le_of_ble_eq_true rfl⟩ ⟨by show 1 + i * (1 + C) + 1 ≤ 1 + 8 * (1 + C); omega, by show 8 + i * (1 + N) + 1 ≤ 8 + 8 * (1 + N); omega⟩ (Nat.le_of_ble_eq_true rfl) (dk rfl) ?_
      rintro v h2 ⟨q, rfl, hq, hBq, rfl⟩
      have XQ := Ext.new hq (IA [i])
      refine callV_ok (ci := 11) (T := TX9) (N := 3) (av := [.ref q]) (r := [vI i, .ref T]) X E (c_whole _ (M.ext (XX.trans XQ)) (hup_self _ _ _) ⟨TW.name (by omega), by simp⟩ hw) lkX9_whole mlX9_77 lmX9_whole lvX9_whole ⟨Nat.le_of_ble_eq_true rfl, Nat.le_of_ble_eq_true rfl⟩ ⟨by show 1 + i * (1 + C) + 1 + c1 ≤ 1 + 8 * (1 + C); omega, by show 8 + i * (1 + N) + 1 + n1 ≤ 8 + 8 * (1 + N); omega⟩ rfl (M.ext (XX.trans XQ)).1 (Nat.le_of_ble_eq_true rfl) (dk rfl) ?_
      rintro v h3 ⟨X3, hv⟩
      have X4 := XQ.trans X3
      have hT3 := X4 _ _ hTh
      refine WS.widen (k' := 1 + (i + 1) * (1 + C)) (n' := 8 + (i + 1) * (1 + N)) (by show 1 + i * (1 + C) + 1 + c1 ≤ 1 + (i + 1) * (1 + C); omega) (by show 8 + i * (1 + N) + 1 + n1 ≤ 8 + (i + 1) * (1 + N); omega) ?_
      have lf : (filR as 8).length = 8 := filR_len (by omega)
      rcases hv with ⟨h16, rfl⟩ | ⟨h16, tr, q5, rfl, hq5⟩
      · have e : (nI i).toNatClampNeg = i := nI_clamp (by omega)
        refine astN_ok X (dk rfl) hT3 rfl ⟨nI_pos (by omega), by rw [e, lf]; omega⟩ ?_
        rw [e]
        have XN : Ext h (hup h3 T (105, (filR as 8).set i .null)) := (XX.trans X4).set hT _
        iterate 2 refine fst1_ok X (dk rfl) rfl ?_
        refine ald_ok X (Or.inr (Or.inr ⟨rfl, by decide⟩)) (dk rfl) (hup_self _ _ _) (inA_nI (v := .null) (by omega) (List.getElem?_set_self (by rw [lf]; omega))) ?_
        refine br_ok X (dk rfl) rfl (show ((28 : Nat) : Int) + 5 = ((33 : Nat) : Int) from rfl) (fun c3 => absurd c3 (fun z => z)) (fun _ => ?_)
        refine fst1_ok X (dk rfl) rfl ?_
        exact reta_ok X hr hlk (Or.inr ⟨_, rfl⟩) (Or.inl rfl) (dk rfl) (Or.inl ⟨rfl, XN, i, by omega, r, c1, n1, hw, h16⟩) (by show 1 + (i + 1) * (1 + C) ≤ 1 + 8 * (1 + C); omega) (by show 8 + (i + 1) * (1 + N) ≤ 8 + 8 * (1 + N); omega)
      · refine str_ok X (dk rfl) hT3 hq5 (by rw [lf]; omega) (by rw [lf]; omega) ?_
        rw [show (filR as 8).set i (.ref q5) = filR (as ++ [q5]) 8 by rw [← ha]; exact filR_set (by omega)]
        iterate 2 refine fst1_ok X (dk rfl) rfl ?_
        refine ald_ok X (Or.inr (Or.inr ⟨rfl, by decide⟩)) (dk rfl) (hup_self _ _ _) (inA_nI (v := .ref q5) (by omega) (filR_get (by rw [← ha]; exact List.getElem?_concat_length))) ?_
        refine br_ok X (dk rfl) rfl (show ((28 : Nat) : Int) + 5 = ((33 : Nat) : Int) from rfl) (fun _ => ?_) (fun c3 => absurd trivial c3)
        repeat refine fst1_ok X (dk rfl) rfl ?_
        refine br_ok X (dk rfl) rfl (show ((36 : Nat) : Int) + (-28) = ((8 : Nat) : Int) from rfl) (fun _ => ?_) (fun q => absurd trivial q)
        refine WS.sel (l' := [(2, vI (i + 1)), (1, .ref T), (0, .ref o9)]) [2, 1, 0] (by rw [← f2]; rfl) ?_
        have kI : ∀ {b : Nat} {x : List Nat}, h3 b = some (IA x) → hup h3 T (105, filR (as ++ [q5]) 8) b = some (IA x) := fun {b x} hb => by rw [hup_ne _ _ (IA_ne hb hT3)]; exact hb
        refine ih (i + 1) (by omega) (by omega) _ (as ++ [q5]) (rows ++ [r]) _ rfl (by rw [List.length_append, ha]; rfl) (by rw [List.length_append, hrl]; rfl) (hup_self _ _ _) (fun k b x k1 k2 => ?_) (fun x hx => ?_) (fun k hk => ?_) ((XX.trans X4).set hT _)
        · rcases Nat.lt_or_ge k i with z | z
          · rw [List.getElem?_append_left (by omega)] at k1 k2
            exact kI (X4 _ _ (has k b x k1 k2))
          · have hk : k = i := by have := (List.getElem?_eq_some_iff.mp k1).1; rw [List.length_append, List.length_singleton] at this; omega
            have k3 : (as ++ [q5])[k]? = some q5 := by rw [hk, ← ha]; exact List.getElem?_concat_length
            have k4 : (rows ++ [r])[k]? = some r := by rw [hk, ← hrl]; exact List.getElem?_concat_length
            cases k1.symm.trans k3
            cases k2.symm.trans k4
            exact kI hq5
        · rcases List.mem_append.mp hx with z | z
          · exact hro x z
          · simp at z; rw [z]; exact ⟨tr, h16⟩
        · rcases Nat.lt_or_ge k i with z | z
          · obtain ⟨r0, c0, n0, e0, w0⟩ := hwr k z
            exact ⟨r0, c0, n0, by rw [List.getElem?_append_left (by omega)]; exact e0, w0⟩
          · have ek : k = i := by omega
            rw [ek]
            exact ⟨r, c1, n1, by rw [← hrl]; exact List.getElem?_concat_length, hw⟩
  iterate 3 refine fst1_ok X (dk rfl) rfl ?_
  refine WS.widen (k' := 1 + 0 * (1 + C)) (n' := 8 + 0 * (1 + N)) (by show 0 + 1 ≤ 1 + 0 * (1 + C); omega) (by show 0 + 8 ≤ 8 + 0 * (1 + N); omega) ?_
  exact loop 8 0 rfl (Nat.zero_le _) _ [] [] _ rfl rfl rfl (by rw [hup_self, filR_0]) (fun k b r k1 => by simp at k1) (fun r hr => by simp at hr) (fun k hk => absurd hk (Nat.not_lt_zero k)) (Ext.new hT _)
end E4a
section E4
variable {la : Launch} {D : va_G} {cA : Nat → ClassId} {B0 pa : Nat} {o S A : Nat} {sl : List (List Nat)} {an : List (List (List Nat))} {da dr kn th : Int32}
set_option maxHeartbeats 4000000 in
theorem RF.c_canBe (h : AH) {u1 u2 : Nat} {one other : List Nat} (x : Int32) {C N : Nat} (hC : 37 ≤ C ∧ 709 ≤ N) (hGo : x = 0 → ∀ G : GS, goF 40 one other none8 0 0 = some G → 2 + G.2.2.2.1 ≤ C ∧ 11 + G.2.2.2.2 ≤ N) (hu1 : h u1 = some (IA one)) (hu2 : h u2 = some (IA other)) (t1 : TW one ∧ one.length ≤ 16) (t2 : TW other ∧ other.length ≤ 16) : CT la D cA B0 pa yX10_canBe cX10_canBe 3 (some .boolean) (rmD 85 C N) [.ref u1, .ref u2, .int x] h (fun v h' => ∃ b : Bool, v = some (.int (bI b)) ∧ Ext h h' ∧ (b = true → CanR one other x) ∧ (b = true ↔ ∃ E, PEx x one other E)) := by
  refine CT_of (by decide +kernel) (Nat.le_of_ble_eq_true rfl) ?_
  intro p e s m args below meth c X E hr hlk hnm
  have dk : ∀ {pc : Nat} {q : Instr × Nat}, lkd DX10_canBe pc = some q → decode cX10_canBe pc = .ok q := lkd_ok DX10_canBe_ok
  refine fst1_ok X (dk rfl) rfl ?_
  refine br_ok X (dk rfl) rfl (show ((1 : Nat) : Int) + 26 = ((27 : Nat) : Int) from rfl) (fun hx => ?_) (fun hx => ?_)
  · obtain ⟨hY, z1, z2⟩ := BY_of t1 t2
    refine new_ok X nc10_165 (dk rfl) (by show 0 + 1 ≤ C; omega) (by show 0 + 5 ≤ N; omega) (fun u hu hBu => ?_)
    have XU := Ext.new hu ((10, [Value.null, .null, .null, .int 0, .int 0]) : AC)
    repeat refine fst1_ok X (dk rfl) rfl ?_
    refine callI_ok (av := [.ref u1, .ref u2]) (r := [.ref u]) X E (c_init8 _ hY (hup_self _ _ _) (by rw [z1]; exact XU _ _ hu1) (by rw [z2]; exact XU _ _ hu2)) lkX8_init mlX10_167 lmX8_init rfl ⟨Nat.le_of_ble_eq_true rfl, Nat.le_of_ble_eq_true rfl⟩ ⟨by show 0 + 1 + 36 ≤ C; omega, by show 0 + 5 + 704 ≤ N; omega⟩ (Nat.le_of_ble_eq_true rfl) (dk rfl) ?_
    rintro v h2 ⟨rfl, ⟨T, O, Q, ts, of', pt, can, M2, hI⟩, F2⟩
    have X2 : Ext h h2 := fun b c e => F2 b c (fun z => by rw [z, hu] at e; cases e) (XU _ _ e)
    refine getfN_ok X E.2.1 fnX10_207 (dk rfl) M2.1 rfl ?_
    exact reti_ok X hr hlk (bI_n can) (dk rfl) ⟨can, rfl, X2, (fun hc => ⟨fun z => absurd z hx, fun _ => ⟨ts, of', pt, by rw [← hc]; exact hI⟩⟩), ⟨fun hc => by
      obtain ⟨m1, m2⟩ := (hI.can hY).1 hc
      obtain ⟨E9, pe⟩ := PEc.of t1 t2 m1 m2
      exact ⟨E9, by unfold PEx; rw [if_neg hx]; exact pe⟩, fun ⟨E9, pe⟩ => by
      unfold PEx at pe
      rw [if_neg hx] at pe
      obtain ⟨k9, S9, m1, m2, -⟩ := pe
      exact (hI.can hY).2 ⟨k9, m1, m2⟩⟩⟩ (by show 0 + 1 + 36 ≤ C; omega) (by show 0 + 5 + 704 ≤ N; omega)
  · have hx0 : x = 0 := Decidable.not_not.mp hx
    obtain ⟨G, hG, g1, -⟩ := goE t1 t2
    obtain ⟨g2, g3⟩ := hGo hx0 G hG
    refine new_ok X nc10_157 (dk rfl) (by show 0 + 1 ≤ C; omega) (by show 0 + 3 ≤ N; omega) (fun u hu hBu => ?_)
    have XU := Ext.new hu ((11, [Value.null, .int 0, .int 0]) : AC)
    repeat refine fst1_ok X (dk rfl) rfl ?_
    refine callI_ok (av := [.ref u1, .ref u2]) (r := [.ref u]) X E (c_stepsInit _ (hup_self _ _ _) (XU _ _ hu1) (XU _ _ hu2) t1 t2 hG) lkX9_init mlX10_159 lmX9_init rfl ⟨Nat.le_of_ble_eq_true rfl, Nat.le_of_ble_eq_true rfl⟩ ⟨by show 0 + 1 + (1 + G.2.2.2.1) ≤ C; omega, by show 0 + 3 + (8 + G.2.2.2.2) ≤ N; omega⟩ (Nat.le_of_ble_eq_true rfl) (dk rfl) ?_
    rintro v h2 ⟨rfl, ⟨St, hSt, M2⟩, F2⟩
    have X2 : Ext h h2 := fun b c e => F2 b c (fun z => by rw [z, hu] at e; cases e) (XU _ _ e)
    refine getfN_ok X E.2.1 fnX10_204 (dk rfl) M2.1 rfl ?_
    have kl : 0 + 1 + (1 + G.2.2.2.1) ≤ C ∧ 0 + 3 + (8 + G.2.2.2.2) ≤ N := ⟨by omega, by omega⟩
    refine br_ok X (dk rfl) rfl (show ((16 : Nat) : Int) + 7 = ((23 : Nat) : Int) from rfl) (fun hz => ?_) (fun hz => ?_)
    · refine fst1_ok X (dk rfl) rfl ?_
      refine br_ok X (dk rfl) rfl (show ((24 : Nat) : Int) + 15 = ((39 : Nat) : Int) from rfl) (fun _ => ?_) (fun q => absurd trivial q)
      exact reti_ok X hr hlk (bI_n false) (dk rfl) ⟨false, rfl, X2, (fun hc => by cases hc), ⟨fun hc => (by cases hc), fun ⟨E9, pe⟩ => by
        unfold PEx at pe
        rw [if_pos hx0] at pe
        obtain ⟨G2, S2, b1, b2, -⟩ := pe
        rw [hG] at b1
        cases b1
        exact absurd (by rw [b2]; decide) hz⟩⟩ kl.1 kl.2
    · refine fst1_ok X (dk rfl) rfl ?_
      refine br_ok X (dk rfl) rfl (show ((20 : Nat) : Int) + 19 = ((39 : Nat) : Int) from rfl) (fun _ => ?_) (fun q => absurd trivial q)
      refine reti_ok X hr hlk (bI_n true) (dk rfl) ⟨true, rfl, X2, (fun _ => ⟨fun _ => ⟨G, hG, ?_⟩, fun z => absurd hx0 z⟩), ⟨fun _ => ?_, fun _ => rfl⟩⟩ kl.1 kl.2
      · have hz' : nI G.2.2.1 = nI 0 := Decidable.not_not.mp hz
        exact (nI_eq (by omega) (by omega)).mp hz'
      · have hz' : nI G.2.2.1 = nI 0 := Decidable.not_not.mp hz
        have hw := (nI_eq (by omega) (by omega)).mp hz'
        obtain ⟨Gs, Sx, q1, q2, q3, q4, q5, q6, q7⟩ := runM_ok t1 t2
        rw [hG] at q1
        cases q1
        obtain ⟨bY, -, -⟩ := BY_of t1 t2
        obtain ⟨E9, hE⟩ := ExP.ex bY.1 q3 (q6 hw)
        refine ⟨E9, ?_⟩
        unfold PEx
        rw [if_pos hx0]
        exact ⟨G, Sx, hG, hw, by rw [hw] at q7; exact q7, q3, q6 hw, q4, hE⟩
set_option maxHeartbeats 4000000 in
theorem RF.c_alike (h : AH) (M : MD h o S A sl an da dr kn th) (x1 x2 x3 x4 : Int32) : CT la D cA B0 pa yX10_alike cX10_alike 6 (some .int) (rmD 87 8600 102600) [.ref o, .int x1, .int x2, .int x3, .int x4] h (refR o S A kn (aAlike x1 x2 x3 x4 (sl, an, da, dr)) h) := by
  refine CT_of (by decide +kernel) (Nat.le_of_ble_eq_true rfl) ?_
  intro p e s m args below meth c X E hr hlk hnm
  have dk : ∀ {pc : Nat} {q : Instr × Nat}, lkd DX10_alike pc = some q → decode cX10_alike pc = .ok q := lkd_ok DX10_alike_ok
  have mid2 : ∀ t1 t2 : Bool, (t1 = false → inN 6 x1 ∧ inN 6 x2 ∧ inN 3 x3) → (t1 = true → ¬ (inN 6 x1 ∧ inN 6 x2 ∧ inN 3 x3)) → (t2 = false → inN 2 x4) → (t2 = true → ¬ (inN 2 x4)) → WR p la e (rmD 87 8600 102600) s m args below meth c D cA B0 6 (refR o S A kn (aAlike x1 x2 x3 x4 (sl, an, da, dr)) h) 43 (lv_args 0 [.ref o, .int x1, .int x2, .int x3, .int x4]) [.int (bI t2), .int (bI t1), .ref o] h 0 0 := by
    intro t1 t2 ht1 hn1 ht2 hn2
    refine thr2_ok X E M ⟨Nat.le_of_ble_eq_true rfl, Nat.le_of_ble_eq_true rfl⟩ ⟨Nat.le_of_ble_eq_true rfl, Nat.le_of_ble_eq_true rfl⟩ (Nat.le_of_ble_eq_true rfl) (dk rfl) (fun h1 M1 F1 => ?_)
    cases hb : (t1 || t2) with
    | true =>
      have hT1 : ¬ (inN 6 x1 ∧ inN 6 x2 ∧ inN 3 x3) → aAlike x1 x2 x3 x4 (sl, an, da, dr) = ((1, 0), (sl, an, da, dr)) := (fun hn => by
          unfold aAlike
          by_cases q0 : okI 6 x1 = true
          rotate_left
          · exact if_neg q0
          rw [if_pos q0]
          by_cases q1 : okI 6 x2 = true
          rotate_left
          · exact if_neg q1
          rw [if_pos q1]
          by_cases q2 : okI 3 x3 = true
          rotate_left
          · exact if_neg q2
          rw [if_pos q2]
          exact absurd ⟨okI_in (by decide) q0, okI_in (by decide) q1, okI_in (by decide) q2⟩ hn)
      have hT2 : (inN 6 x1 ∧ inN 6 x2 ∧ inN 3 x3) → ¬ (inN 2 x4) → aAlike x1 x2 x3 x4 (sl, an, da, dr) = ((2, 0), (sl, an, da, dr)) := (fun hp hq => by
          unfold aAlike
          rw [if_pos (okI_of (by decide) (hp.1)), if_pos (okI_of (by decide) (hp.2.1)), if_pos (okI_of (by decide) (hp.2.2)), if_neg (fun z => hq (how_in z))])
      have hE : aAlike x1 x2 x3 x4 (sl, an, da, dr) = ((thI t1 t2, 0), (sl, an, da, dr)) := by
        cases t1 with
        | true => exact hT1 (hn1 rfl)
        | false =>
          cases t2 with
          | true => exact hT2 (ht1 rfl) (hn2 rfl)
          | false => cases hb
      refine br_ok X (dk rfl) rfl (show ((46 : Nat) : Int) + 5 = ((51 : Nat) : Int) from rfl) (fun q => absurd q bI_t) (fun _ => ?_)
      refine fst1_ok X (dk rfl) rfl ?_
      exact reti_ok X hr hlk rfl (dk rfl) (refR_thr M1 F1 hE (by decide +kernel)) (Nat.zero_le _) (Nat.zero_le _)
    | false =>
      refine br_ok X (dk rfl) rfl (show ((46 : Nat) : Int) + 5 = ((51 : Nat) : Int) from rfl) (fun _ => ?_) (fun q => absurd bI_f' q)
      obtain ⟨hb1, hb2⟩ := Bool.or_eq_false_iff.mp hb
      obtain ⟨⟨j1, hj1, rfl⟩, ⟨j2, hj2, rfl⟩, ⟨j3, hj3, rfl⟩⟩ := ht1 hb1
      obtain ⟨j4, hj4, rfl⟩ := ht2 hb2
      have th0 : thI t1 t2 = 0 := by
        cases t1 with
        | true => cases hb
        | false =>
          cases t2 with
          | true => cases hb
          | false => rfl
      rw [th0] at M1
      obtain ⟨ss, s1, s2, s3⟩ := M1.slot
      obtain ⟨as, a1, a2, a3⟩ := M1.ans
      obtain ⟨b1, y1, e1, f1, g1, w1, n1⟩ := s3 j1 hj1
      have ly1 : (y1.map vI).length = y1.length := List.length_map _
      obtain ⟨b2, y2, e2, f2, g2, w2, n2⟩ := s3 j2 hj2
      have ly2 : (y2.map vI).length = y2.length := List.length_map _
      obtain ⟨b3, y3, e3, f3, g3, w3, n3⟩ := a3 j3 hj3
      obtain ⟨C, N, ac1, ac2, ac3, ac4, ac5⟩ := alC_ok ⟨w1, n1⟩ ⟨w2, n2⟩ (nI j4)
      repeat refine fst1_ok X (dk rfl) rfl ?_
      refine getf_ok X flX10_11 (dk rfl) M1.obj rfl ?_
      refine fst1_ok X (dk rfl) rfl ?_
      refine ldr_ok X (dk rfl) s2 e1 (by omega) ?_
      repeat refine fst1_ok X (dk rfl) rfl ?_
      refine getf_ok X flX10_11 (dk rfl) M1.obj rfl ?_
      refine fst1_ok X (dk rfl) rfl ?_
      refine ldr_ok X (dk rfl) s2 e2 (by omega) ?_
      repeat refine fst1_ok X (dk rfl) rfl ?_
      refine callS_ok (av := [.ref b1, .ref b2, .int (nI j4)]) (r := []) X E (c_canBe h1 (nI j4) ac1 ac2 g1 g2 ⟨w1, n1⟩ ⟨w2, n2⟩) lkX10_canBe mlX10_153 lsX10_canBe ⟨Nat.le_of_ble_eq_true rfl, Nat.le_of_ble_eq_true rfl⟩ ⟨by show 0 + C ≤ 8600; omega, by show 0 + N ≤ 102600; omega⟩ (Nat.le_of_ble_eq_true rfl) (dk rfl) ?_
      rintro v h2 ⟨bb, rfl, XQ, hcan, hex⟩
      have M2 := M1.ext XQ
      have FQ := F1.trans (Fr.ext XQ)
      cases bb with
      | false =>
        refine br_ok X (dk rfl) rfl (show ((68 : Nat) : Int) + 9 = ((77 : Nat) : Int) from rfl) (fun q => absurd q bI_f) (fun _ => ?_)
        repeat refine fst1_ok X (dk rfl) rfl ?_
        refine done_ok X E M2 ⟨Nat.le_of_ble_eq_true rfl, Nat.le_of_ble_eq_true rfl⟩ ⟨by show 0 + C ≤ 8600; omega, by show 0 + N ≤ 102600; omega⟩ (Nat.le_of_ble_eq_true rfl) (dk rfl) (fun h9 M9 F9 => ?_)
        exact reti_ok X hr hlk rfl (dk rfl) (refR_ok M9 ((FQ).trans F9) (by unfold aAlike; dsimp only; rw [if_pos (okI_t hj1 (by decide)), if_pos (okI_t hj2 (by decide)), if_pos (okI_t hj3 (by decide)), if_pos (in_how hj4), xI_n (by omega), xI_n (by omega), xI_n (by omega), getD_of f1, getD_of f2]; rw [rowsA_no (fun z => by have := hex.mpr z; cases this)]; rfl)) (by show 0 + C ≤ 8600; omega) (by show 0 + N ≤ 102600; omega)
      | true =>
        obtain ⟨E9, pe⟩ := hex.mp rfl
        have erw := rowsA_yes ⟨w1, n1⟩ ⟨w2, n2⟩ pe
        have endA : ∀ (h3 : AH) (q : Nat) (rows : List (List Nat)) (l : List (Nat × Value)), lsel l [3, 0] = [(3, vI j3), (0, .ref o)] → Ext h2 h3 → Ans h3 q rows → AO rows → rows = (List.range 8).map E9 → q ≠ S → WR p la e (rmD 87 8600 102600) s m args below meth c D cA B0 6 (refR o S A kn (aAlike (nI j1) (nI j2) (nI j3) (nI j4) (sl, an, da, dr)) h) 129 l [.ref q] h3 8500 102500 := by
          intro h3 q rows l hl X3 hq hA er hqS
          refine WS.sel [3, 0] hl ?_
          have M3 := M2.ext X3
          repeat refine fst1_ok X (dk rfl) rfl ?_
          refine br_ok X (dk rfl) rfl (show ((133 : Nat) : Int) + 10 = ((143 : Nat) : Int) from rfl) (fun _ => ?_) (fun q => absurd trivial q)
          repeat refine fst1_ok X (dk rfl) rfl ?_
          refine callV_ok (ci := 12) (T := TX10) (N := 6) (av := [vI j3, .ref q]) (r := []) X E (c_become h3 M3 hj3 hq hA hqS) lkX10_become mlX10_145 lmX10_become lpX10_become ⟨Nat.le_of_ble_eq_true rfl, Nat.le_of_ble_eq_true rfl⟩ ⟨Nat.le_of_ble_eq_true rfl, Nat.le_of_ble_eq_true rfl⟩ rfl M3.obj (Nat.le_of_ble_eq_true rfl) (dk rfl) ?_
          rintro v h4 ⟨rfl, I9⟩
          exact reti_ok X hr hlk rfl (dk rfl) (refR_tr ⟨rfl, I9⟩ (FQ.trans (Fr.ext X3)) (by unfold aAlike; dsimp only; rw [if_pos (okI_t hj1 (by decide)), if_pos (okI_t hj2 (by decide)), if_pos (okI_t hj3 (by decide)), if_pos (in_how hj4), xI_n (by omega), xI_n (by omega), xI_n (by omega), getD_of f1, getD_of f2]; rw [erw, toldS_some, ← er]; exact becA_short hA _ _)) (Nat.le_of_ble_eq_true rfl) (Nat.le_of_ble_eq_true rfl)
        have endN : ∀ (h3 : AH) (l : List (Nat × Value)), lsel l [3, 0] = [(3, vI j3), (0, .ref o)] → Ext h2 h3 → (∃ x, x < 8 ∧ 16 < (E9 x).length) → WR p la e (rmD 87 8600 102600) s m args below meth c D cA B0 6 (refR o S A kn (aAlike (nI j1) (nI j2) (nI j3) (nI j4) (sl, an, da, dr)) h) 129 l [.null] h3 8500 102500 := by
          intro h3 l hl X3 hlg
          refine WS.sel [3, 0] hl ?_
          have M3 := M2.ext X3
          repeat refine fst1_ok X (dk rfl) rfl ?_
          refine br_ok X (dk rfl) rfl (show ((133 : Nat) : Int) + 10 = ((143 : Nat) : Int) from rfl) (fun q => absurd q (fun z => z)) (fun _ => ?_)
          repeat refine fst1_ok X (dk rfl) rfl ?_
          refine no_ok X E M3 ⟨Nat.le_of_ble_eq_true rfl, Nat.le_of_ble_eq_true rfl⟩ ⟨Nat.le_of_ble_eq_true rfl, Nat.le_of_ble_eq_true rfl⟩ (Nat.le_of_ble_eq_true rfl) (dk rfl) (fun h9 M9 F9 => ?_)
          refine br_ok X (dk rfl) rfl (show ((140 : Nat) : Int) + 10 = ((150 : Nat) : Int) from rfl) (fun _ => ?_) (fun q => absurd trivial q)
          exact reti_ok X hr hlk rfl (dk rfl) (refR_ok M9 ((FQ.trans (Fr.ext X3)).trans F9) (by unfold aAlike; dsimp only; rw [if_pos (okI_t hj1 (by decide)), if_pos (okI_t hj2 (by decide)), if_pos (okI_t hj3 (by decide)), if_pos (in_how hj4), xI_n (by omega), xI_n (by omega), xI_n (by omega), getD_of f1, getD_of f2]; rw [erw, toldS_some]; exact becA_long hlg _ _)) (Nat.le_of_ble_eq_true rfl) (Nat.le_of_ble_eq_true rfl)
        refine br_ok X (dk rfl) rfl (show ((68 : Nat) : Int) + 9 = ((77 : Nat) : Int) from rfl) (fun _ => ?_) (fun q => absurd bI_t q)
        repeat refine fst1_ok X (dk rfl) rfl ?_
        refine br_ok X (dk rfl) rfl (show ((79 : Nat) : Int) + 28 = ((107 : Nat) : Int) from rfl) (fun hx => ?_) (fun hx => ?_)
        · obtain ⟨hc1, hc2⟩ := (ac5 (hcan rfl)).2 hx
          subst hc1
          subst hc2
          obtain ⟨hY, z1, z2⟩ := BY_of ⟨w1, n1⟩ ⟨w2, n2⟩
          refine new_ok X nc10_165 (dk rfl) (Nat.le_of_ble_eq_true rfl) (Nat.le_of_ble_eq_true rfl) (fun u hu hBu => ?_)
          have XU := Ext.new hu ((10, [Value.null, .null, .null, .int 0, .int 0]) : AC)
          repeat refine fst1_ok X (dk rfl) rfl ?_
          refine getf_ok X flX10_11 (dk rfl) (XU _ _ M2.obj) rfl ?_
          refine fst1_ok X (dk rfl) rfl ?_
          refine ldr_ok X (dk rfl) (XU _ _ (XQ _ _ s2)) e1 (by omega) ?_
          repeat refine fst1_ok X (dk rfl) rfl ?_
          refine getf_ok X flX10_11 (dk rfl) (XU _ _ M2.obj) rfl ?_
          refine fst1_ok X (dk rfl) rfl ?_
          refine ldr_ok X (dk rfl) (XU _ _ (XQ _ _ s2)) e2 (by omega) ?_
          refine callI_ok (av := [.ref b1, .ref b2]) (r := [.ref u]) X E (c_init8 _ hY (hup_self _ _ _) (by rw [z1]; exact XU _ _ (XQ _ _ g1)) (by rw [z2]; exact XU _ _ (XQ _ _ g2))) lkX8_init mlX10_167 lmX8_init rfl ⟨Nat.le_of_ble_eq_true rfl, Nat.le_of_ble_eq_true rfl⟩ ⟨Nat.le_of_ble_eq_true rfl, Nat.le_of_ble_eq_true rfl⟩ (Nat.le_of_ble_eq_true rfl) (dk rfl) ?_
          rintro v h3 ⟨rfl, ⟨T, O, Q, ts, of', pt, can, M3, hI⟩, F3⟩
          have X3 : Ext h2 h3 := fun b c e => F3 b c (fun z => by rw [z, hu] at e; cases e) (XU _ _ e)
          obtain ⟨ts9, of9, pt9, hI9⟩ := (hcan rfl).2 hx
          obtain ⟨-, -, rfl⟩ := InP_det hI hI9
          obtain ⟨hP, rr, C9, N9, hA, hC9, hN9⟩ := ansE hI M3.2.2.2.2.2.2.2.1
          refine callV_ok (ci := 10) (T := TX8) (N := 5) (av := []) (r := []) X E (c_answer8 h3 M3 hP hA) lkX8_answer mlX10_168 lmX8_answer lpX8_answer ⟨Nat.le_of_ble_eq_true rfl, Nat.le_of_ble_eq_true rfl⟩ ⟨by show 0 + 37 + 1 + 36 + C9 ≤ 8600; omega, by show 0 + 709 + 5 + 704 + N9 ≤ 102600; omega⟩ rfl M3.1 (Nat.le_of_ble_eq_true rfl) (dk rfl) ?_
          rintro v h4 hv
          refine WS.widen (k' := 8500) (n' := 102500) (by show 0 + 37 + 1 + 36 + C9 ≤ 8500; omega) (by show 0 + 709 + 5 + 704 + N9 ≤ 102500; omega) ?_
          obtain ⟨mk9, ak9⟩ := (hI.can hY).1 rfl
          have hrr : (rr = none ∧ ∃ x, x < 8 ∧ 16 < (E9 x).length) ∨ rr = some ((List.range 8).map E9) := by
            unfold PEx at pe
            rw [if_neg hx] at pe
            obtain ⟨k9, S9, m1, m2, m3, m4⟩ := pe
            have hI2 := hI
            obtain ⟨rfl, x1, -⟩ := hI2
            exact an_rows hY.1 x1 (SKP.to m1 mk9 m3) mk9.1 ak9 m4 hA
          cases rr with
          | none =>
            obtain ⟨rfl, X4⟩ := hv
            exact endN h4 _ rfl (X3.trans X4) (hrr.elim (fun z => z.2) (fun z => by cases z))
          | some rows =>
            obtain ⟨hAO, q, rfl, hq, hBq, X4, nQ⟩ := hv
            exact endA h4 q rows _ rfl (X3.trans X4) nQ hAO (hrr.elim (fun z => by cases z.1) (fun z => Option.some.inj z)) (fun z => by rw [z] at hq; have := X3 _ _ (XQ _ _ s2); rw [hq] at this; cases this)
        · have hx0 : nI j4 = 0 := Decidable.not_not.mp hx
          obtain ⟨G, SSt, aC, aN, hG, eG, hS1, hAC, hAN, hC9, hN9⟩ := (ac5 (hcan rfl)).1 hx0
          obtain ⟨hY, z1, z2⟩ := BY_of ⟨w1, n1⟩ ⟨w2, n2⟩
          refine new_ok X nc10_157 (dk rfl) (by show 0 + C + 1 ≤ 8600; omega) (by show 0 + N + 3 ≤ 102600; omega) (fun u hu hBu => ?_)
          have XU := Ext.new hu ((11, [Value.null, .int 0, .int 0]) : AC)
          repeat refine fst1_ok X (dk rfl) rfl ?_
          refine getf_ok X flX10_11 (dk rfl) (XU _ _ M2.obj) rfl ?_
          refine fst1_ok X (dk rfl) rfl ?_
          refine ldr_ok X (dk rfl) (XU _ _ (XQ _ _ s2)) e1 (by omega) ?_
          repeat refine fst1_ok X (dk rfl) rfl ?_
          refine getf_ok X flX10_11 (dk rfl) (XU _ _ M2.obj) rfl ?_
          refine fst1_ok X (dk rfl) rfl ?_
          refine ldr_ok X (dk rfl) (XU _ _ (XQ _ _ s2)) e2 (by omega) ?_
          refine callI_ok (av := [.ref b1, .ref b2]) (r := [.ref u]) X E (c_stepsInit _ (hup_self _ _ _) (XU _ _ (XQ _ _ g1)) (XU _ _ (XQ _ _ g2)) ⟨w1, n1⟩ ⟨w2, n2⟩ hG) lkX9_init mlX10_159 lmX9_init rfl ⟨Nat.le_of_ble_eq_true rfl, Nat.le_of_ble_eq_true rfl⟩ ⟨by show 0 + C + 1 + (1 + G.2.2.2.1) ≤ 8600; omega, by show 0 + N + 3 + (8 + G.2.2.2.2) ≤ 102600; omega⟩ (Nat.le_of_ble_eq_true rfl) (dk rfl) ?_
          rintro v h3 ⟨rfl, ⟨St, hSt, M3⟩, F3⟩
          have X3 : Ext h2 h3 := fun b c e => F3 b c (fun z => by rw [z, hu] at e; cases e) (XU _ _ e)
          rw [eG] at M3
          refine callV_ok (ci := 11) (T := TX9) (N := 3) (av := []) (r := []) X E (c_stAnswer h3 M3 (fun k _ => whE hY.1 hS1 k)) lkX9_answer mlX10_162 lmX9_answer lpX9_answer ⟨Nat.le_of_ble_eq_true rfl, Nat.le_of_ble_eq_true rfl⟩ ⟨by show 0 + C + 1 + (1 + G.2.2.2.1) + (1 + 8 * (1 + 64 * (cnS (y1 ++ y2) SSt + 1))) ≤ 8600; rw [← hAC]; omega, by show 0 + N + 3 + (8 + G.2.2.2.2) + (8 + 8 * (1 + 1280 * (cnS (y1 ++ y2) SSt + 1))) ≤ 102600; rw [← hAN]; omega⟩ rfl M3.1 (Nat.le_of_ble_eq_true rfl) (dk rfl) ?_
          rintro v h4 hv
          refine WS.widen (k' := 8500) (n' := 102500) (by show 0 + C + 1 + (1 + G.2.2.2.1) + (1 + 8 * (1 + 64 * (cnS (y1 ++ y2) SSt + 1))) ≤ 8500; rw [← hAC]; omega) (by show 0 + N + 3 + (8 + G.2.2.2.2) + (8 + 8 * (1 + 1280 * (cnS (y1 ++ y2) SSt + 1))) ≤ 102500; rw [← hAN]; omega) ?_
          have hwo : ∀ {i C N : Nat} {r : List Nat}, i < 8 → whF 161 (smO (y1 ++ y2) SSt) [i] 0 = some (r, C, N) → ((E9 i).length ≤ 16 → r = E9 i) ∧ (16 < (E9 i).length → 16 < r.length) := fun {i C N r} hi hw => by
            unfold PEx at pe
            rw [if_pos hx0] at pe
            obtain ⟨G2, S2, b1, b2, b3, b4, b5, b6, b7⟩ := pe
            rw [hG] at b1
            cases b1
            rw [eG.symm.trans b6] at hw
            exact wh_one hY.1 b4 b5 b7 hi hw
          rcases hv with ⟨rfl, X4, i9, hi9, r9, c9, n9, hw9, hl9⟩ | ⟨rows, hwr, hAO, q, rfl, hq, hBq, X4, nQ⟩
          · refine br_ok X (dk rfl) rfl (show ((104 : Nat) : Int) + 25 = ((129 : Nat) : Int) from rfl) (fun _ => ?_) (fun q => absurd trivial q)
            exact endN h4 _ rfl (X3.trans X4) ⟨i9, hi9, by
              rcases Nat.lt_or_ge 16 (E9 i9).length with z | z
              · exact z
              · have := (hwo hi9 hw9).1 z
                rw [this] at hl9
                exact hl9⟩
          · refine br_ok X (dk rfl) rfl (show ((104 : Nat) : Int) + 25 = ((129 : Nat) : Int) from rfl) (fun _ => ?_) (fun q => absurd trivial q)
            exact endA h4 q rows _ rfl (X3.trans X4) nQ hAO (List.ext_getElem? (fun k => by
              rcases Nat.lt_or_ge k 8 with c | c
              · obtain ⟨r, c1, n1', e1', w1'⟩ := hwr k c
                have l16 := (hAO.2 r (List.mem_of_getElem? e1')).2
                obtain ⟨u1, u2⟩ := hwo c w1'
                have : (E9 k).length ≤ 16 := by
                  rcases Nat.lt_or_ge 16 (E9 k).length with z | z
                  · have := u2 z
                    omega
                  · exact z
                rw [e1', List.getElem?_map, List.getElem?_range c, u1 this]
                rfl
              · rw [List.getElem?_eq_none (by rw [hAO.1]; exact c), List.getElem?_eq_none (by rw [List.length_map, List.length_range]; exact c)])) (fun z => by rw [z] at hq; have := X3 _ _ (XQ _ _ s2); rw [hq] at this; cases this)
  have mid1 : ∀ t1 : Bool, (t1 = false → inN 6 x1 ∧ inN 6 x2 ∧ inN 3 x3) → (t1 = true → ¬ (inN 6 x1 ∧ inN 6 x2 ∧ inN 3 x3)) → WR p la e (rmD 87 8600 102600) s m args below meth c D cA B0 6 (refR o S A kn (aAlike x1 x2 x3 x4 (sl, an, da, dr)) h) 27 (lv_args 0 [.ref o, .int x1, .int x2, .int x3, .int x4]) [.int (bI t1), .ref o] h 0 0 := by
    intro t1 ht1 hn1
    have mid2 := fun t2 => mid2 t1 t2 ht1 hn1
    iterate 1 refine fst1_ok X (dk rfl) rfl ?_
    have mid2T : ¬ inN 2 x4 → ∀ l : List (Nat × Value), l = (lv_args 0 [.ref o, .int x1, .int x2, .int x3, .int x4]) → WR p la e (rmD 87 8600 102600) s m args below meth c D cA B0 6 (refR o S A kn (aAlike x1 x2 x3 x4 (sl, an, da, dr)) h) 38 l [.int (bI t1), .ref o] h 0 0 := by
      intro hx l hl
      rw [hl]
      refine fst1_ok X (dk rfl) rfl ?_
      refine br_ok X (dk rfl) rfl (show ((39 : Nat) : Int) + 4 = ((43 : Nat) : Int) from rfl) (fun _ => ?_) (fun q => absurd trivial q)
      exact mid2 true (fun z => by cases z) (fun _ => hx)
    refine br_ok X (dk rfl) rfl (show ((29 : Nat) : Int) + 9 = ((38 : Nat) : Int) from rfl) (fun c0 => mid2T (fun z => inN_pos z (by decide) c0) _ rfl) (fun c1 => ?_)
    iterate 2 refine fst1_ok X (dk rfl) rfl ?_
    refine br_ok X (dk rfl) rfl (show ((35 : Nat) : Int) + 7 = ((42 : Nat) : Int) from rfl) (fun c2 => ?_) (fun c0 => mid2T (fun z => c0 (by rw [show Int32.ofInt 1 = nI 1 by decide +kernel]; exact inN_leN z (by decide))) _ rfl)
    refine fst1_ok X (dk rfl) rfl ?_
    exact mid2 false (fun _ => inN_le (K := 1) (by omega) c1 (by rw [show nI 1 = Int32.ofInt 1 by decide +kernel]; exact c2)) (fun z => by cases z)
  iterate 2 refine fst1_ok X (dk rfl) rfl ?_
  refine isSlot_ok X E mlX10_95 ⟨Nat.le_of_ble_eq_true rfl, Nat.le_of_ble_eq_true rfl⟩ ⟨Nat.le_of_ble_eq_true rfl, Nat.le_of_ble_eq_true rfl⟩ (Nat.le_of_ble_eq_true rfl) (dk rfl) (fun mid1b0 mid1h0 mid1n0 => ?_)
  cases mid1b0 with
  | false =>
    refine br_ok X (dk rfl) rfl (show ((5 : Nat) : Int) + 17 = ((22 : Nat) : Int) from rfl) (fun _ => ?_) (fun q => absurd bI_f' q)
    refine fst1_ok X (dk rfl) rfl ?_
    refine br_ok X (dk rfl) rfl (show ((23 : Nat) : Int) + 4 = ((27 : Nat) : Int) from rfl) (fun _ => ?_) (fun q => absurd trivial q)
    exact mid1 true (fun z => by cases z) (fun _ hh => absurd (hh.1) (mid1n0 rfl))
  | true =>
    refine br_ok X (dk rfl) rfl (show ((5 : Nat) : Int) + 17 = ((22 : Nat) : Int) from rfl) (fun q => absurd q bI_t) (fun _ => ?_)
    iterate 1 refine fst1_ok X (dk rfl) rfl ?_
    refine isSlot_ok X E mlX10_95 ⟨Nat.le_of_ble_eq_true rfl, Nat.le_of_ble_eq_true rfl⟩ ⟨Nat.le_of_ble_eq_true rfl, Nat.le_of_ble_eq_true rfl⟩ (Nat.le_of_ble_eq_true rfl) (dk rfl) (fun mid1b1 mid1h1 mid1n1 => ?_)
    cases mid1b1 with
    | false =>
      refine br_ok X (dk rfl) rfl (show ((12 : Nat) : Int) + 10 = ((22 : Nat) : Int) from rfl) (fun _ => ?_) (fun q => absurd bI_f' q)
      refine fst1_ok X (dk rfl) rfl ?_
      refine br_ok X (dk rfl) rfl (show ((23 : Nat) : Int) + 4 = ((27 : Nat) : Int) from rfl) (fun _ => ?_) (fun q => absurd trivial q)
      exact mid1 true (fun z => by cases z) (fun _ hh => absurd (hh.2.1) (mid1n1 rfl))
    | true =>
      refine br_ok X (dk rfl) rfl (show ((12 : Nat) : Int) + 10 = ((22 : Nat) : Int) from rfl) (fun q => absurd q bI_t) (fun _ => ?_)
      iterate 1 refine fst1_ok X (dk rfl) rfl ?_
      refine isAnswer_ok X E mlX10_135 ⟨Nat.le_of_ble_eq_true rfl, Nat.le_of_ble_eq_true rfl⟩ ⟨Nat.le_of_ble_eq_true rfl, Nat.le_of_ble_eq_true rfl⟩ (Nat.le_of_ble_eq_true rfl) (dk rfl) (fun mid1b2 mid1h2 mid1n2 => ?_)
      cases mid1b2 with
      | false =>
        refine br_ok X (dk rfl) rfl (show ((19 : Nat) : Int) + 7 = ((26 : Nat) : Int) from rfl) (fun q => absurd q bI_f) (fun _ => ?_)
        refine fst1_ok X (dk rfl) rfl ?_
        refine br_ok X (dk rfl) rfl (show ((23 : Nat) : Int) + 4 = ((27 : Nat) : Int) from rfl) (fun _ => ?_) (fun q => absurd trivial q)
        exact mid1 true (fun z => by cases z) (fun _ hh => absurd (hh.2.2) (mid1n2 rfl))
      | true =>
        refine br_ok X (dk rfl) rfl (show ((19 : Nat) : Int) + 7 = ((26 : Nat) : Int) from rfl) (fun _ => ?_) (fun q => absurd bI_t q)
        refine fst1_ok X (dk rfl) rfl ?_
        exact mid1 false (fun _ => ⟨mid1h0 rfl, mid1h1 rfl, mid1h2 rfl⟩) (fun z => by cases z)
end E4
end Ue04rf4
section Uf01new1
/-! new objects of the class, strongly: what is new is apart (printed by wip/p20/genN1.py) -/
theorem TmX.kp {h h' : AH} {b q L : Nat} {c : TC} (T : TmX h b q L c) (k : ∀ (a : Nat) (cc : AC), (a = b ∨ a = q) → h a = some cc → h' a = some cc) : TmX h' b q L c := by
  obtain ⟨t1, t2, xs, t3, t4⟩ := T
  exact ⟨t1, k _ _ (Or.inl rfl) t2, xs, k _ _ (Or.inr rfl) t3, t4⟩
/-- new terms and rows, each of its own; all else but ex stays -/
def KL (ex : Nat → Prop) (h h' : AH) (ts : List (Nat × Nat × Nat × TC)) (rs : List (Nat × Nat)) : Prop :=
  (∀ (a : Nat) (c : AC), ¬ ex a → h a = some c → h' a = some c) ∧ (ts.map (fun t => t.1)).Nodup ∧ (ts.map (fun t => t.2.1)).Nodup ∧ (rs.map (fun r => r.1)).Nodup ∧ (∀ t ∈ ts, ∀ r ∈ rs, t.2.1 ≠ r.1) ∧
  (∀ t ∈ ts, h t.1 = none ∧ h t.2.1 = none ∧ ¬ ex t.1 ∧ ¬ ex t.2.1 ∧ TmX h' t.1 t.2.1 t.2.2.1 t.2.2.2) ∧ ∀ r ∈ rs, h r.1 = none ∧ ¬ ex r.1 ∧ ∃ xs : List Int32, h' r.1 = some (107, xs.map Value.int) ∧ xs.length = r.2
section KLs
variable {ex : Nat → Prop} {h h1 h2 : AH} {ts ts2 : List (Nat × Nat × Nat × TC)} {rs rs2 : List (Nat × Nat)}
theorem KL.rf (ex : Nat → Prop) (h : AH) : KL ex h h [] [] := ⟨fun _ _ _ e => e, List.nodup_nil, List.nodup_nil, List.nodup_nil, fun t ht => (by cases ht), fun t ht => (by cases ht), fun t ht => (by cases ht)⟩
theorem KL.b1 (A : KL ex h h1 ts rs) {t : Nat × Nat × Nat × TC} (ht : t ∈ ts) : h1 t.1 ≠ none ∧ h1 t.2.1 ≠ none := by
  obtain ⟨-, -, -, -, -, t2, xs, t3, -⟩ := A.2.2.2.2.2.1 t ht
  exact ⟨(by rw [t2]; intro z; cases z), (by rw [t3]; intro z; cases z)⟩
theorem KL.b2 (A : KL ex h h1 ts rs) {r : Nat × Nat} (hr : r ∈ rs) : h1 r.1 ≠ none := by
  obtain ⟨-, -, xs, t3, -⟩ := A.2.2.2.2.2.2 r hr
  rw [t3]
  intro z
  cases z
theorem KL.tr (A : KL ex h h1 ts rs) (K : KL ex h1 h2 ts2 rs2) : KL ex h h2 (ts ++ ts2) (rs ++ rs2) := by
  have bk : ∀ a, ¬ ex a → h1 a = none → h a = none := fun a ne e => by
    cases z : h a with
    | none => rfl
    | some c => rw [A.1 a c ne z] at e; cases e
  have e1 := fun {t : Nat × Nat × Nat × TC} (ht : t ∈ ts) => A.b1 ht
  have e2 := fun {r : Nat × Nat} (hr : r ∈ rs) => A.b2 hr
  obtain ⟨a1, a2, a3, a4, a5, a6, a7⟩ := A
  obtain ⟨k1, k2, k3, k4, k5, k6, k7⟩ := K
  refine ⟨fun a c ne e => k1 a c ne (a1 a c ne e), ?_, ?_, ?_, fun t ht r hr => ?_, fun t ht => ?_, fun r hr => ?_⟩
  · rw [List.map_append]
    refine List.nodup_append.mpr ⟨a2, k2, fun x hx y hy z => ?_⟩
    obtain ⟨t, ht, rfl⟩ := List.mem_map.mp hx
    obtain ⟨u, hu, rfl⟩ := List.mem_map.mp hy
    exact (e1 ht).1 (by rw [z]; exact (k6 u hu).1)
  · rw [List.map_append]
    refine List.nodup_append.mpr ⟨a3, k3, fun x hx y hy z => ?_⟩
    obtain ⟨t, ht, rfl⟩ := List.mem_map.mp hx
    obtain ⟨u, hu, rfl⟩ := List.mem_map.mp hy
    exact (e1 ht).2 (by rw [z]; exact (k6 u hu).2.1)
  · rw [List.map_append]
    refine List.nodup_append.mpr ⟨a4, k4, fun x hx y hy z => ?_⟩
    obtain ⟨t, ht, rfl⟩ := List.mem_map.mp hx
    obtain ⟨u, hu, rfl⟩ := List.mem_map.mp hy
    exact e2 ht (by rw [z]; exact (k7 u hu).1)
  · rcases List.mem_append.mp ht with ht | ht
    · rcases List.mem_append.mp hr with hr | hr
      · exact a5 t ht r hr
      · intro z
        exact (e1 ht).2 (by rw [z]; exact (k7 r hr).1)
    · rcases List.mem_append.mp hr with hr | hr
      · intro z
        exact e2 hr (by rw [← z]; exact (k6 t ht).2.1)
      · exact k5 t ht r hr
  · rcases List.mem_append.mp ht with ht | ht
    · obtain ⟨q1, q2, q3, q4, q5⟩ := a6 t ht
      exact ⟨q1, q2, q3, q4, q5.kp (fun a cc ha e => k1 a cc (by rcases ha with rfl | rfl <;> assumption) e)⟩
    · obtain ⟨q1, q2, q3, q4, q5⟩ := k6 t ht
      exact ⟨bk _ q3 q1, bk _ q4 q2, q3, q4, q5⟩
  · rcases List.mem_append.mp hr with hr | hr
    · obtain ⟨q1, q2, xs, q3, q4⟩ := a7 r hr
      exact ⟨q1, q2, xs, k1 _ _ q2 q3, q4⟩
    · obtain ⟨q1, q2, q3⟩ := k7 r hr
      exact ⟨bk _ q2 q1, q2, q3⟩
theorem KL.set (A : KL ex h h1 ts rs) {a : Nat} (ha : ex a) (c : AC) : KL ex h (hup h1 a c) ts rs := by
  obtain ⟨a1, a2, a3, a4, a5, a6, a7⟩ := A
  have ne : ∀ b, ¬ ex b → hup h1 a c b = h1 b := fun b hb => hup_ne _ _ (fun z => hb (by rw [z]; exact ha))
  refine ⟨fun b cc hb e => by rw [ne b hb]; exact a1 b cc hb e, a2, a3, a4, a5, fun t ht => ?_, fun r hr => ?_⟩
  · obtain ⟨q1, q2, q3, q4, q5⟩ := a6 t ht
    exact ⟨q1, q2, q3, q4, q5.kp (fun b cc hb e => by rw [ne b (by rcases hb with rfl | rfl <;> assumption)]; exact e)⟩
  · obtain ⟨q1, q2, xs, q3, q4⟩ := a7 r hr
    exact ⟨q1, q2, xs, by rw [ne _ q2]; exact q3, q4⟩
theorem KL.row (xo : ∀ a, ex a → h a ≠ none) {q : Nat} (hq : h q = none) (N : Nat) : KL ex h (hup h q (107, (List.replicate N (0 : Int32)).map Value.int)) [] [(q, N)] := by
  refine ⟨fun a c _ e => by rw [hup_ne _ _ (fun z => by rw [z, hq] at e; cases e)]; exact e, List.nodup_nil, List.nodup_nil, (by simp), fun t ht => (by cases ht), fun t ht => (by cases ht), fun r hr => ?_⟩
  rw [List.mem_singleton.mp hr]
  exact ⟨hq, fun z => xo q z hq, _, hup_self _ _ _, List.length_replicate⟩
theorem KL.term (xo : ∀ a, ex a → h a ≠ none) {u q L : Nat} {c0 : AC} (hu : h u = none) (hq : hup h u c0 q = none) : KL ex h (hup (hup (hup h u c0) q (107, (List.replicate L (0 : Int32)).map Value.int)) u (7, [.ref q, vI 0, .int (bI false)])) [(u, q, L, ([], false))] [] := by
  have hqu : q ≠ u := fun z => by rw [z, hup_self] at hq; cases hq
  have hq0 : h q = none := by rw [hup_ne _ _ hqu] at hq; exact hq
  refine ⟨fun a c _ e => ?_, (by simp), (by simp), List.nodup_nil, fun t _ r hr => (by cases hr), fun t ht => ?_, fun r hr => (by cases hr)⟩
  · have n1 : a ≠ u := fun z => by rw [z, hu] at e; cases e
    have n2 : a ≠ q := fun z => by rw [z, hq0] at e; cases e
    rw [hup_ne _ _ n1, hup_ne _ _ n2, hup_ne _ _ n1]
    exact e
  · rw [List.mem_singleton.mp ht]
    exact ⟨hu, hq0, fun z => xo u z hu, fun z => xo q z hq0, Nat.zero_le _, hup_self _ _ _, _, by show hup _ u _ q = _; rw [hup_ne _ _ hqu, hup_self], List.length_replicate, rfl⟩
theorem KL.nest (xo : ∀ a, ex a → h a ≠ none) {u : Nat} {c0 : AC} (hu : h u = none) (N : KL (fun a => a = u) (hup h u c0) h2 ts rs) : KL ex h h2 ts rs := by
  obtain ⟨a1, a2, a3, a4, a5, a6, a7⟩ := N
  have nn : ∀ a, hup h u c0 a = none → h a = none := fun a e => by
    rw [hup_ne _ _ (fun z => by rw [z, hup_self] at e; cases e)] at e
    exact e
  refine ⟨fun a c _ e => ?_, a2, a3, a4, a5, fun t ht => ?_, fun r hr => ?_⟩
  · have n1 : a ≠ u := fun z => by rw [z, hu] at e; cases e
    exact a1 a c n1 (by rw [hup_ne _ _ n1]; exact e)
  · obtain ⟨q1, q2, q3, q4, q5⟩ := a6 t ht
    exact ⟨nn _ q1, nn _ q2, fun z => xo _ z (nn _ q1), fun z => xo _ z (nn _ q2), q5⟩
  · obtain ⟨q1, q2, q3⟩ := a7 r hr
    exact ⟨nn _ q1, fun z => xo _ z (nn _ q1), q3⟩
end KLs
section F01
variable {la : Launch} {D : va_G} {cA : Nat → ClassId} {B0 pa : Nat}
set_option maxHeartbeats 8000000 in
theorem n5_init (h : AH) {o L : Nat} (hL : L ≤ 256) (ho : h o = some (7, [.null, .int 0, .int 0])) : CT la D cA B0 pa yX5_init cX5_init 2 none (rmD 1 1 L) [.ref o, vI L] h (fun v h' => v = none ∧ ∃ q, h q = none ∧ h' = hup (hup h q (107, (List.replicate L (0 : Int32)).map Value.int)) o (7, [.ref q, vI 0, .int (bI false)])) := by
  refine CT_of (by decide +kernel) (Nat.le_of_ble_eq_true rfl) ?_
  intro p e s m args below meth c X E hr hlk hnm
  have dk : ∀ {pc : Nat} {q : Instr × Nat}, lkd DX5_init pc = some q → decode cX5_init pc = .ok q := lkd_ok DX5_init_ok
  refine fst1_ok X (dk rfl) rfl ?_
  refine obj_ok X ml5_obj (dk rfl) (Nat.le_of_ble_eq_true rfl) (Nat.le_of_ble_eq_true rfl) (Nat.le_of_ble_eq_true rfl) ?_
  iterate 3 refine fst1_ok X (dk rfl) rfl ?_
  refine mmax_ok X (y := 0) (by omega) (by omega) mlX5_9 (dk rfl) (Nat.le_refl 1) (Nat.le_of_ble_eq_true rfl) (Nat.zero_le _) (Nat.zero_le _) ?_
  rw [Nat.max_eq_left (Nat.zero_le L)]
  have e1 : (nI L).toNatClampNeg = L := nI_clamp (by omega)
  refine newa7_ok X acInt (dk rfl) (nI_pos (by omega)) (by rw [e1]; omega) (by show 0 + 1 ≤ 1; omega) (by rw [e1]; show 0 + L ≤ L; omega) (fun q hq hBq => ?_)
  rw [e1]
  have hoq : o ≠ q := fun z => by rw [z, hq] at ho; cases ho
  refine putf_ok X flX5_15 ftX5_0 (Or.inr ⟨by rw [hnm]; rfl, RX5, TX5, 3, rfl, rfl⟩) rfl rfl (dk rfl) (by rw [hup_ne _ _ hoq]; exact ho) (Nat.le_of_ble_eq_true rfl) ?_
  exact retv_ok X hr hlk (dk rfl) ⟨rfl, q, hq, rfl⟩ (by show 0 + 1 ≤ 1; omega) (by show 0 + L ≤ L; omega)
set_option maxHeartbeats 16000000 in
theorem n2_init (h : AH) {o : Nat} (ho : h o = some (4, [.null, .null, .int 0])) : CT la D cA B0 pa yX2_init cX2_init 1 none (rmD 1 2 256) [.ref o] h (fun v h' => v = none ∧ ∃ q1 q2, h' o = some (4, [.ref q1, .ref q2, vI 0]) ∧ KL (fun a => a = o) h h' [] [(q1, 128), (q2, 128)]) := by
  refine CT_of (by decide +kernel) (Nat.le_of_ble_eq_true rfl) ?_
  intro p e s m args below meth c X E hr hlk hnm
  have dk : ∀ {pc : Nat} {q : Instr × Nat}, lkd DX2_init pc = some q → decode cX2_init pc = .ok q := lkd_ok DX2_init_ok
  refine fst1_ok X (dk rfl) rfl ?_
  refine obj_ok X ml2_obj (dk rfl) (Nat.le_of_ble_eq_true rfl) (Nat.le_of_ble_eq_true rfl) (Nat.le_of_ble_eq_true rfl) ?_
  have xo : ∀ {hh : AH} {cc : AC}, hh o = some cc → ∀ a, a = o → hh a ≠ none := fun {hh cc} e a z w => by rw [z, e] at w; cases w
  have K0 := KL.rf (fun a => a = o) h
  have o0 := ho
  iterate 2 refine fst1_ok X (dk rfl) rfl ?_
  rw [show (Int16.ofInt 128).toInt32 = nI 128 by decide +kernel]
  have e1 : (nI 128).toNatClampNeg = 128 := nI_clamp (by omega)
  refine newa7_ok X acInt (dk rfl) (nI_pos (by omega)) (by rw [e1]; omega) (Nat.le_of_ble_eq_true rfl) (by rw [e1]; exact Nat.le_of_ble_eq_true rfl) (fun u1 hu1 hBu1 => ?_)
  rw [e1]
  have K1b := KL.row (ex := fun a => a = o) (xo o0) hu1 128
  have K1a := K0.tr K1b
  have o1a : (hup h u1 (107, (List.replicate 128 (0 : Int32)).map Value.int)) o = some (4, [.null, .null, .int 0]) := by rw [hup_ne _ _ (fun z => by rw [← z, o0] at hu1; cases hu1)]; exact o0
  refine putf_ok X flX2_11 ftX2_0 (Or.inr ⟨by rw [hnm]; rfl, RX2, TX2, 3, rfl, rfl⟩) rfl rfl (dk rfl) o1a (Nat.le_of_ble_eq_true rfl) ?_
  have o1 : hup (hup h u1 (107, (List.replicate 128 (0 : Int32)).map Value.int)) o (4, ([.null, .null, .int 0] : List Value).set 0 (.ref u1)) o = some (4, [.ref u1, .null, .int 0]) := hup_self _ _ _
  have K1 := K1a.set (a := o) rfl (4, ([.null, .null, .int 0] : List Value).set 0 (.ref u1))
  generalize hup (hup h u1 (107, (List.replicate 128 (0 : Int32)).map Value.int)) o (4, ([.null, .null, .int 0] : List Value).set 0 (.ref u1)) = H1 at o1 K1
  iterate 2 refine fst1_ok X (dk rfl) rfl ?_
  rw [show (Int16.ofInt 128).toInt32 = nI 128 by decide +kernel]
  have e2 : (nI 128).toNatClampNeg = 128 := nI_clamp (by omega)
  refine newa7_ok X acInt (dk rfl) (nI_pos (by omega)) (by rw [e2]; omega) (Nat.le_of_ble_eq_true rfl) (by rw [e2]; exact Nat.le_of_ble_eq_true rfl) (fun u2 hu2 hBu2 => ?_)
  rw [e2]
  have K2b := KL.row (ex := fun a => a = o) (xo o1) hu2 128
  have K2a := K1.tr K2b
  have o2a : (hup H1 u2 (107, (List.replicate 128 (0 : Int32)).map Value.int)) o = some (4, [.ref u1, .null, .int 0]) := by rw [hup_ne _ _ (fun z => by rw [← z, o1] at hu2; cases hu2)]; exact o1
  refine putf_ok X flX2_15 ftX2_1 (Or.inr ⟨by rw [hnm]; rfl, RX2, TX2, 3, rfl, rfl⟩) rfl rfl (dk rfl) o2a (Nat.le_of_ble_eq_true rfl) ?_
  have o2 : hup (hup H1 u2 (107, (List.replicate 128 (0 : Int32)).map Value.int)) o (4, ([.ref u1, .null, .int 0] : List Value).set 1 (.ref u2)) o = some (4, [.ref u1, .ref u2, .int 0]) := hup_self _ _ _
  have K2 := K2a.set (a := o) rfl (4, ([.ref u1, .null, .int 0] : List Value).set 1 (.ref u2))
  generalize hup (hup H1 u2 (107, (List.replicate 128 (0 : Int32)).map Value.int)) o (4, ([.ref u1, .null, .int 0] : List Value).set 1 (.ref u2)) = H2 at o2 K2
  exact retv_ok X hr hlk (dk rfl) (⟨rfl, u1, u2, o2, K2⟩) (Nat.le_of_ble_eq_true rfl) (Nat.le_of_ble_eq_true rfl)
set_option maxHeartbeats 16000000 in
theorem n3_init (h : AH) {o : Nat} (ho : h o = some (5, [.null])) : CT la D cA B0 pa yX3_init cX3_init 1 none (rmD 2 3 259) [.ref o] h (fun v h' => v = none ∧ ∃ pb q1 q2, h' o = some (5, [.ref pb]) ∧ h' pb = some (4, [.ref q1, .ref q2, vI 0]) ∧ h pb = none ∧ KL (fun a => a = o) h h' [] [(q1, 128), (q2, 128)]) := by
  refine CT_of (by decide +kernel) (Nat.le_of_ble_eq_true rfl) ?_
  intro p e s m args below meth c X E hr hlk hnm
  have dk : ∀ {pc : Nat} {q : Instr × Nat}, lkd DX3_init pc = some q → decode cX3_init pc = .ok q := lkd_ok DX3_init_ok
  refine fst1_ok X (dk rfl) rfl ?_
  refine obj_ok X ml3_obj (dk rfl) (Nat.le_of_ble_eq_true rfl) (Nat.le_of_ble_eq_true rfl) (Nat.le_of_ble_eq_true rfl) ?_
  have xo : ∀ {hh : AH} {cc : AC}, hh o = some cc → ∀ a, a = o → hh a ≠ none := fun {hh cc} e a z w => by rw [z, e] at w; cases w
  have K0 := KL.rf (fun a => a = o) h
  have o0 := ho
  refine fst1_ok X (dk rfl) rfl ?_
  refine new_ok X nc3_9 (dk rfl) (by first | exact Nat.le_of_ble_eq_true rfl | (show _ ≤ _; omega)) (by first | exact Nat.le_of_ble_eq_true rfl | (show _ ≤ _; omega)) (fun u1 hu1 hBu1 => ?_)
  refine fst1_ok X (dk rfl) rfl ?_
  refine callIN_ok (av := []) (r := [.ref u1, .ref o]) X E (n2_init _ (hup_self _ _ _)) lkX2_init mnX3_11 lmX2_init rfl ⟨Nat.le_of_ble_eq_true rfl, Nat.le_of_ble_eq_true rfl⟩ ⟨Nat.le_of_ble_eq_true rfl, Nat.le_of_ble_eq_true rfl⟩ (Nat.le_of_ble_eq_true rfl) (dk rfl) ?_
  rintro v H1a ⟨rfl, g1, g2, hpb, N1⟩
  have K1b := KL.nest (ex := fun a => a = o) (xo o0) hu1 N1
  have K1a := K0.tr K1b
  have o1a : H1a o = some (5, [.null]) := by
    have nu : o ≠ u1 := fun z => by rw [← z, o0] at hu1; cases hu1
    exact N1.1 o _ nu (by rw [hup_ne _ _ nu]; exact o0)
  refine putf_ok X flX3_12 ftX3_0 (Or.inr ⟨by rw [hnm]; rfl, RX3, TX3, 1, rfl, rfl⟩) rfl rfl (dk rfl) o1a (Nat.le_of_ble_eq_true rfl) ?_
  have o1 : hup H1a o (5, ([.null] : List Value).set 0 (.ref u1)) o = some (5, [.ref u1]) := hup_self _ _ _
  have K1 := K1a.set (a := o) rfl (5, ([.null] : List Value).set 0 (.ref u1))
  have hpb : hup H1a o (5, ([.null] : List Value).set 0 (.ref u1)) u1 = some (4, [.ref g1, .ref g2, vI 0]) := by rw [hup_ne _ _ (k_ne hpb o1a (by decide))]; exact hpb
  generalize hup H1a o (5, ([.null] : List Value).set 0 (.ref u1)) = H1 at o1 K1 hpb
  exact retv_ok X hr hlk (dk rfl) (⟨rfl, u1, g1, g2, o1, hpb, hu1, K1⟩) (Nat.le_of_ble_eq_true rfl) (Nat.le_of_ble_eq_true rfl)
set_option maxHeartbeats 16000000 in
theorem n4_init (h : AH) {o : Nat} (ho : h o = some (6, [.null, .null, .null, .int 0, .int 0])) : CT la D cA B0 pa yX4_init cX4_init 1 none (rmD 2 6 302) [.ref o] h (fun v h' => v = none ∧ ∃ b1 b2 r1 pb q1 q2, h' o = some (6, [.ref b1, .ref r1, .ref pb, .int 0, .int 0]) ∧ h' pb = some (4, [.ref q1, .ref q2, vI 0]) ∧ KL (fun a => a = o) h h' [(b1, b2, 32, ([], false))] [(r1, 8), (q1, 128), (q2, 128)]) := by
  refine CT_of (by decide +kernel) (Nat.le_of_ble_eq_true rfl) ?_
  intro p e s m args below meth c X E hr hlk hnm
  have dk : ∀ {pc : Nat} {q : Instr × Nat}, lkd DX4_init pc = some q → decode cX4_init pc = .ok q := lkd_ok DX4_init_ok
  refine fst1_ok X (dk rfl) rfl ?_
  refine obj_ok X ml4_obj (dk rfl) (Nat.le_of_ble_eq_true rfl) (Nat.le_of_ble_eq_true rfl) (Nat.le_of_ble_eq_true rfl) ?_
  have xo : ∀ {hh : AH} {cc : AC}, hh o = some cc → ∀ a, a = o → hh a ≠ none := fun {hh cc} e a z w => by rw [z, e] at w; cases w
  have K0 := KL.rf (fun a => a = o) h
  have o0 := ho
  refine fst1_ok X (dk rfl) rfl ?_
  refine new_ok X nc4_9 (dk rfl) (by first | exact Nat.le_of_ble_eq_true rfl | (show _ ≤ _; omega)) (by first | exact Nat.le_of_ble_eq_true rfl | (show _ ≤ _; omega)) (fun u1 hu1 hBu1 => ?_)
  iterate 2 refine fst1_ok X (dk rfl) rfl ?_
  rw [show (Int8.ofInt 32).toInt32 = nI 32 by decide +kernel]
  refine callI_ok (av := [.int (nI 32)]) (r := [.ref u1, .ref o]) X E (n5_init _ (L := 32) (by omega) (hup_self _ _ _)) lkX5_init mlX4_11 lmX5_init rfl ⟨Nat.le_of_ble_eq_true rfl, Nat.le_of_ble_eq_true rfl⟩ ⟨Nat.le_of_ble_eq_true rfl, Nat.le_of_ble_eq_true rfl⟩ (Nat.le_of_ble_eq_true rfl) (dk rfl) ?_
  rintro v H1a ⟨rfl, q1, hq1, eH1⟩
  have K1b := KL.term (ex := fun a => a = o) (L := 32) (xo o0) hu1 hq1
  rw [← eH1] at K1b
  have K1a := K0.tr K1b
  have o1a : H1a o = some (6, [.null, .null, .null, .int 0, .int 0]) := by
    have nu : o ≠ u1 := fun z => by rw [← z, o0] at hu1; cases hu1
    have nq : o ≠ q1 := fun z => by rw [← z, hup_ne _ _ nu, o0] at hq1; cases hq1
    rw [eH1, hup_ne _ _ nu, hup_ne _ _ nq, hup_ne _ _ nu]
    exact o0
  refine putf_ok X flX4_14 ftX4_0 (Or.inr ⟨by rw [hnm]; rfl, RX4, TX4, 5, rfl, rfl⟩) rfl rfl (dk rfl) o1a (Nat.le_of_ble_eq_true rfl) ?_
  have o1 : hup H1a o (6, ([.null, .null, .null, .int 0, .int 0] : List Value).set 0 (.ref u1)) o = some (6, [.ref u1, .null, .null, .int 0, .int 0]) := hup_self _ _ _
  have K1 := K1a.set (a := o) rfl (6, ([.null, .null, .null, .int 0, .int 0] : List Value).set 0 (.ref u1))
  generalize hup H1a o (6, ([.null, .null, .null, .int 0, .int 0] : List Value).set 0 (.ref u1)) = H1 at o1 K1
  iterate 2 refine fst1_ok X (dk rfl) rfl ?_
  rw [show (Int8.ofInt 8).toInt32 = nI 8 by decide +kernel]
  have e2 : (nI 8).toNatClampNeg = 8 := nI_clamp (by omega)
  refine newa7_ok X acInt (dk rfl) (nI_pos (by omega)) (by rw [e2]; omega) (Nat.le_of_ble_eq_true rfl) (by rw [e2]; exact Nat.le_of_ble_eq_true rfl) (fun u2 hu2 hBu2 => ?_)
  rw [e2]
  have K2b := KL.row (ex := fun a => a = o) (xo o1) hu2 8
  have K2a := K1.tr K2b
  have o2a : (hup H1 u2 (107, (List.replicate 8 (0 : Int32)).map Value.int)) o = some (6, [.ref u1, .null, .null, .int 0, .int 0]) := by rw [hup_ne _ _ (fun z => by rw [← z, o1] at hu2; cases hu2)]; exact o1
  refine putf_ok X flX4_20 ftX4_1 (Or.inr ⟨by rw [hnm]; rfl, RX4, TX4, 5, rfl, rfl⟩) rfl rfl (dk rfl) o2a (Nat.le_of_ble_eq_true rfl) ?_
  have o2 : hup (hup H1 u2 (107, (List.replicate 8 (0 : Int32)).map Value.int)) o (6, ([.ref u1, .null, .null, .int 0, .int 0] : List Value).set 1 (.ref u2)) o = some (6, [.ref u1, .ref u2, .null, .int 0, .int 0]) := hup_self _ _ _
  have K2 := K2a.set (a := o) rfl (6, ([.ref u1, .null, .null, .int 0, .int 0] : List Value).set 1 (.ref u2))
  generalize hup (hup H1 u2 (107, (List.replicate 8 (0 : Int32)).map Value.int)) o (6, ([.ref u1, .null, .null, .int 0, .int 0] : List Value).set 1 (.ref u2)) = H2 at o2 K2
  refine fst1_ok X (dk rfl) rfl ?_
  refine new_ok X nc4_24 (dk rfl) (by first | exact Nat.le_of_ble_eq_true rfl | (show _ ≤ _; omega)) (by first | exact Nat.le_of_ble_eq_true rfl | (show _ ≤ _; omega)) (fun u3 hu3 hBu3 => ?_)
  refine fst1_ok X (dk rfl) rfl ?_
  refine callIN_ok (av := []) (r := [.ref u3, .ref o]) X E (n2_init _ (hup_self _ _ _)) lkX2_init mnX4_26 lmX2_init rfl ⟨Nat.le_of_ble_eq_true rfl, Nat.le_of_ble_eq_true rfl⟩ ⟨Nat.le_of_ble_eq_true rfl, Nat.le_of_ble_eq_true rfl⟩ (Nat.le_of_ble_eq_true rfl) (dk rfl) ?_
  rintro v H3a ⟨rfl, g1, g2, hpb, N3⟩
  have K3b := KL.nest (ex := fun a => a = o) (xo o2) hu3 N3
  have K3a := K2.tr K3b
  have o3a : H3a o = some (6, [.ref u1, .ref u2, .null, .int 0, .int 0]) := by
    have nu : o ≠ u3 := fun z => by rw [← z, o2] at hu3; cases hu3
    exact N3.1 o _ nu (by rw [hup_ne _ _ nu]; exact o2)
  refine putf_ok X flX4_27 ftX4_2 (Or.inr ⟨by rw [hnm]; rfl, RX4, TX4, 5, rfl, rfl⟩) rfl rfl (dk rfl) o3a (Nat.le_of_ble_eq_true rfl) ?_
  have o3 : hup H3a o (6, ([.ref u1, .ref u2, .null, .int 0, .int 0] : List Value).set 2 (.ref u3)) o = some (6, [.ref u1, .ref u2, .ref u3, .int 0, .int 0]) := hup_self _ _ _
  have K3 := K3a.set (a := o) rfl (6, ([.ref u1, .ref u2, .null, .int 0, .int 0] : List Value).set 2 (.ref u3))
  have hpb : hup H3a o (6, ([.ref u1, .ref u2, .null, .int 0, .int 0] : List Value).set 2 (.ref u3)) u3 = some (4, [.ref g1, .ref g2, vI 0]) := by rw [hup_ne _ _ (k_ne hpb o3a (by decide))]; exact hpb
  generalize hup H3a o (6, ([.ref u1, .ref u2, .null, .int 0, .int 0] : List Value).set 2 (.ref u3)) = H3 at o3 K3 hpb
  exact retv_ok X hr hlk (dk rfl) (⟨rfl, u1, q1, u2, u3, g1, g2, o3, hpb, K3⟩) (Nat.le_of_ble_eq_true rfl) (Nat.le_of_ble_eq_true rfl)
set_option maxHeartbeats 16000000 in
theorem n1_init (h : AH) {o : Nat} (ho : h o = some (3, [.null, .null, .null, .null, .null])) : CT la D cA B0 pa yX1_init cX1_init 1 none (rmD 2 8 366) [.ref o] h (fun v h' => v = none ∧ ∃ b1 b2 r1 r2 r3 pb q1 q2, h' o = some (3, [.ref b1, .ref r1, .ref r2, .ref r3, .ref pb]) ∧ h' pb = some (4, [.ref q1, .ref q2, vI 0]) ∧ KL (fun a => a = o) h h' [(b1, b2, 32, ([], false))] [(r1, 32), (r2, 32), (r3, 8), (q1, 128), (q2, 128)]) := by
  refine CT_of (by decide +kernel) (Nat.le_of_ble_eq_true rfl) ?_
  intro p e s m args below meth c X E hr hlk hnm
  have dk : ∀ {pc : Nat} {q : Instr × Nat}, lkd DX1_init pc = some q → decode cX1_init pc = .ok q := lkd_ok DX1_init_ok
  refine fst1_ok X (dk rfl) rfl ?_
  refine obj_ok X ml1_obj (dk rfl) (Nat.le_of_ble_eq_true rfl) (Nat.le_of_ble_eq_true rfl) (Nat.le_of_ble_eq_true rfl) ?_
  have xo : ∀ {hh : AH} {cc : AC}, hh o = some cc → ∀ a, a = o → hh a ≠ none := fun {hh cc} e a z w => by rw [z, e] at w; cases w
  have K0 := KL.rf (fun a => a = o) h
  have o0 := ho
  refine fst1_ok X (dk rfl) rfl ?_
  refine new_ok X nc1_9 (dk rfl) (by first | exact Nat.le_of_ble_eq_true rfl | (show _ ≤ _; omega)) (by first | exact Nat.le_of_ble_eq_true rfl | (show _ ≤ _; omega)) (fun u1 hu1 hBu1 => ?_)
  iterate 2 refine fst1_ok X (dk rfl) rfl ?_
  rw [show (Int8.ofInt 32).toInt32 = nI 32 by decide +kernel]
  refine callI_ok (av := [.int (nI 32)]) (r := [.ref u1, .ref o]) X E (n5_init _ (L := 32) (by omega) (hup_self _ _ _)) lkX5_init mlX1_13 lmX5_init rfl ⟨Nat.le_of_ble_eq_true rfl, Nat.le_of_ble_eq_true rfl⟩ ⟨Nat.le_of_ble_eq_true rfl, Nat.le_of_ble_eq_true rfl⟩ (Nat.le_of_ble_eq_true rfl) (dk rfl) ?_
  rintro v H1a ⟨rfl, q1, hq1, eH1⟩
  have K1b := KL.term (ex := fun a => a = o) (L := 32) (xo o0) hu1 hq1
  rw [← eH1] at K1b
  have K1a := K0.tr K1b
  have o1a : H1a o = some (3, [.null, .null, .null, .null, .null]) := by
    have nu : o ≠ u1 := fun z => by rw [← z, o0] at hu1; cases hu1
    have nq : o ≠ q1 := fun z => by rw [← z, hup_ne _ _ nu, o0] at hq1; cases hq1
    rw [eH1, hup_ne _ _ nu, hup_ne _ _ nq, hup_ne _ _ nu]
    exact o0
  refine putf_ok X flX1_16 ftX1_0 (Or.inr ⟨by rw [hnm]; rfl, RX1, TX1, 5, rfl, rfl⟩) rfl rfl (dk rfl) o1a (Nat.le_of_ble_eq_true rfl) ?_
  have o1 : hup H1a o (3, ([.null, .null, .null, .null, .null] : List Value).set 0 (.ref u1)) o = some (3, [.ref u1, .null, .null, .null, .null]) := hup_self _ _ _
  have K1 := K1a.set (a := o) rfl (3, ([.null, .null, .null, .null, .null] : List Value).set 0 (.ref u1))
  generalize hup H1a o (3, ([.null, .null, .null, .null, .null] : List Value).set 0 (.ref u1)) = H1 at o1 K1
  iterate 2 refine fst1_ok X (dk rfl) rfl ?_
  rw [show (Int8.ofInt 32).toInt32 = nI 32 by decide +kernel]
  have e2 : (nI 32).toNatClampNeg = 32 := nI_clamp (by omega)
  refine newa7_ok X acInt (dk rfl) (nI_pos (by omega)) (by rw [e2]; omega) (Nat.le_of_ble_eq_true rfl) (by rw [e2]; exact Nat.le_of_ble_eq_true rfl) (fun u2 hu2 hBu2 => ?_)
  rw [e2]
  have K2b := KL.row (ex := fun a => a = o) (xo o1) hu2 32
  have K2a := K1.tr K2b
  have o2a : (hup H1 u2 (107, (List.replicate 32 (0 : Int32)).map Value.int)) o = some (3, [.ref u1, .null, .null, .null, .null]) := by rw [hup_ne _ _ (fun z => by rw [← z, o1] at hu2; cases hu2)]; exact o1
  refine putf_ok X flX1_20 ftX1_1 (Or.inr ⟨by rw [hnm]; rfl, RX1, TX1, 5, rfl, rfl⟩) rfl rfl (dk rfl) o2a (Nat.le_of_ble_eq_true rfl) ?_
  have o2 : hup (hup H1 u2 (107, (List.replicate 32 (0 : Int32)).map Value.int)) o (3, ([.ref u1, .null, .null, .null, .null] : List Value).set 1 (.ref u2)) o = some (3, [.ref u1, .ref u2, .null, .null, .null]) := hup_self _ _ _
  have K2 := K2a.set (a := o) rfl (3, ([.ref u1, .null, .null, .null, .null] : List Value).set 1 (.ref u2))
  generalize hup (hup H1 u2 (107, (List.replicate 32 (0 : Int32)).map Value.int)) o (3, ([.ref u1, .null, .null, .null, .null] : List Value).set 1 (.ref u2)) = H2 at o2 K2
  iterate 2 refine fst1_ok X (dk rfl) rfl ?_
  rw [show (Int8.ofInt 32).toInt32 = nI 32 by decide +kernel]
  have e3 : (nI 32).toNatClampNeg = 32 := nI_clamp (by omega)
  refine newa7_ok X acInt (dk rfl) (nI_pos (by omega)) (by rw [e3]; omega) (Nat.le_of_ble_eq_true rfl) (by rw [e3]; exact Nat.le_of_ble_eq_true rfl) (fun u3 hu3 hBu3 => ?_)
  rw [e3]
  have K3b := KL.row (ex := fun a => a = o) (xo o2) hu3 32
  have K3a := K2.tr K3b
  have o3a : (hup H2 u3 (107, (List.replicate 32 (0 : Int32)).map Value.int)) o = some (3, [.ref u1, .ref u2, .null, .null, .null]) := by rw [hup_ne _ _ (fun z => by rw [← z, o2] at hu3; cases hu3)]; exact o2
  refine putf_ok X flX1_24 ftX1_2 (Or.inr ⟨by rw [hnm]; rfl, RX1, TX1, 5, rfl, rfl⟩) rfl rfl (dk rfl) o3a (Nat.le_of_ble_eq_true rfl) ?_
  have o3 : hup (hup H2 u3 (107, (List.replicate 32 (0 : Int32)).map Value.int)) o (3, ([.ref u1, .ref u2, .null, .null, .null] : List Value).set 2 (.ref u3)) o = some (3, [.ref u1, .ref u2, .ref u3, .null, .null]) := hup_self _ _ _
  have K3 := K3a.set (a := o) rfl (3, ([.ref u1, .ref u2, .null, .null, .null] : List Value).set 2 (.ref u3))
  generalize hup (hup H2 u3 (107, (List.replicate 32 (0 : Int32)).map Value.int)) o (3, ([.ref u1, .ref u2, .null, .null, .null] : List Value).set 2 (.ref u3)) = H3 at o3 K3
  iterate 2 refine fst1_ok X (dk rfl) rfl ?_
  rw [show (Int8.ofInt 8).toInt32 = nI 8 by decide +kernel]
  have e4 : (nI 8).toNatClampNeg = 8 := nI_clamp (by omega)
  refine newa7_ok X acInt (dk rfl) (nI_pos (by omega)) (by rw [e4]; omega) (Nat.le_of_ble_eq_true rfl) (by rw [e4]; exact Nat.le_of_ble_eq_true rfl) (fun u4 hu4 hBu4 => ?_)
  rw [e4]
  have K4b := KL.row (ex := fun a => a = o) (xo o3) hu4 8
  have K4a := K3.tr K4b
  have o4a : (hup H3 u4 (107, (List.replicate 8 (0 : Int32)).map Value.int)) o = some (3, [.ref u1, .ref u2, .ref u3, .null, .null]) := by rw [hup_ne _ _ (fun z => by rw [← z, o3] at hu4; cases hu4)]; exact o3
  refine putf_ok X flX1_27 ftX1_3 (Or.inr ⟨by rw [hnm]; rfl, RX1, TX1, 5, rfl, rfl⟩) rfl rfl (dk rfl) o4a (Nat.le_of_ble_eq_true rfl) ?_
  have o4 : hup (hup H3 u4 (107, (List.replicate 8 (0 : Int32)).map Value.int)) o (3, ([.ref u1, .ref u2, .ref u3, .null, .null] : List Value).set 3 (.ref u4)) o = some (3, [.ref u1, .ref u2, .ref u3, .ref u4, .null]) := hup_self _ _ _
  have K4 := K4a.set (a := o) rfl (3, ([.ref u1, .ref u2, .ref u3, .null, .null] : List Value).set 3 (.ref u4))
  generalize hup (hup H3 u4 (107, (List.replicate 8 (0 : Int32)).map Value.int)) o (3, ([.ref u1, .ref u2, .ref u3, .null, .null] : List Value).set 3 (.ref u4)) = H4 at o4 K4
  refine fst1_ok X (dk rfl) rfl ?_
  refine new_ok X nc1_30 (dk rfl) (by first | exact Nat.le_of_ble_eq_true rfl | (show _ ≤ _; omega)) (by first | exact Nat.le_of_ble_eq_true rfl | (show _ ≤ _; omega)) (fun u5 hu5 hBu5 => ?_)
  refine fst1_ok X (dk rfl) rfl ?_
  refine callIN_ok (av := []) (r := [.ref u5, .ref o]) X E (n2_init _ (hup_self _ _ _)) lkX2_init mnX1_32 lmX2_init rfl ⟨Nat.le_of_ble_eq_true rfl, Nat.le_of_ble_eq_true rfl⟩ ⟨Nat.le_of_ble_eq_true rfl, Nat.le_of_ble_eq_true rfl⟩ (Nat.le_of_ble_eq_true rfl) (dk rfl) ?_
  rintro v H5a ⟨rfl, g1, g2, hpb, N5⟩
  have K5b := KL.nest (ex := fun a => a = o) (xo o4) hu5 N5
  have K5a := K4.tr K5b
  have o5a : H5a o = some (3, [.ref u1, .ref u2, .ref u3, .ref u4, .null]) := by
    have nu : o ≠ u5 := fun z => by rw [← z, o4] at hu5; cases hu5
    exact N5.1 o _ nu (by rw [hup_ne _ _ nu]; exact o4)
  refine putf_ok X flX1_33 ftX1_4 (Or.inr ⟨by rw [hnm]; rfl, RX1, TX1, 5, rfl, rfl⟩) rfl rfl (dk rfl) o5a (Nat.le_of_ble_eq_true rfl) ?_
  have o5 : hup H5a o (3, ([.ref u1, .ref u2, .ref u3, .ref u4, .null] : List Value).set 4 (.ref u5)) o = some (3, [.ref u1, .ref u2, .ref u3, .ref u4, .ref u5]) := hup_self _ _ _
  have K5 := K5a.set (a := o) rfl (3, ([.ref u1, .ref u2, .ref u3, .ref u4, .null] : List Value).set 4 (.ref u5))
  have hpb : hup H5a o (3, ([.ref u1, .ref u2, .ref u3, .ref u4, .null] : List Value).set 4 (.ref u5)) u5 = some (4, [.ref g1, .ref g2, vI 0]) := by rw [hup_ne _ _ (k_ne hpb o5a (by decide))]; exact hpb
  generalize hup H5a o (3, ([.ref u1, .ref u2, .ref u3, .ref u4, .null] : List Value).set 4 (.ref u5)) = H5 at o5 K5 hpb
  exact retv_ok X hr hlk (dk rfl) (⟨rfl, u1, q1, u2, u3, u4, u5, g1, g2, o5, hpb, K5⟩) (Nat.le_of_ble_eq_true rfl) (Nat.le_of_ble_eq_true rfl)
end F01
end Uf01new1
section Uf02new2
/-! new answers of the class, strongly (printed by wip/p20/genN2.py) -/
abbrev T4 : Type := Nat × Nat × Nat × TC
section KLt
variable {ex : Nat → Prop} {h h1 h2 : AH} {ts : List T4} {rs : List (Nat × Nat)}
theorem KL.bn {u q L : Nat} {c c' : TC} (A : KL ex h h1 [(u, q, L, c)] []) (T : TmX h2 u q L c') (f : ∀ a : Nat, a ≠ u → a ≠ q → h2 a = h1 a) : KL ex h h2 [(u, q, L, c')] [] := by
  obtain ⟨a1, a2, a3, a4, a5, a6, a7⟩ := A
  obtain ⟨q1, q2, q3, q4, -⟩ := a6 _ List.mem_cons_self
  have q1 : h u = none := q1
  have q2 : h q = none := q2
  refine ⟨fun a cc ne e => ?_, a2, a3, a4, fun t _ r hr => (by cases hr), fun t ht => ?_, fun r hr => (by cases hr)⟩
  · rw [f a (fun z => by rw [z, q1] at e; cases e) (fun z => by rw [z, q2] at e; cases e)]
    exact a1 a cc ne e
  · rw [List.mem_singleton.mp ht]
    exact ⟨q1, q2, q3, q4, T⟩
theorem KL.drop {A : Nat} (K : KL (fun a => ex a ∨ a = A) h h1 ts rs) (hA : h A = none) : KL ex h h1 ts rs := by
  obtain ⟨a1, a2, a3, a4, a5, a6, a7⟩ := K
  refine ⟨fun a c ne e => a1 a c (fun z => z.elim ne (fun w => by rw [w, hA] at e; cases e)) e, a2, a3, a4, a5, fun t ht => ?_, fun r hr => ?_⟩
  · obtain ⟨q1, q2, q3, q4, q5⟩ := a6 t ht
    exact ⟨q1, q2, fun z => q3 (Or.inl z), fun z => q4 (Or.inl z), q5⟩
  · obtain ⟨q1, q2, q3⟩ := a7 r hr
    exact ⟨q1, fun z => q2 (Or.inl z), q3⟩
end KLt
/-- eight terms, each a name's own -/
def Tn8 (f : Nat) (ts : List T4) : Prop := ts.length = f ∧ ∀ n, n < f → ∃ b q, ts[n]? = some (b, q, 16, ([nI n], false))
theorem Tn8.add {f : Nat} {ts : List T4} (H : Tn8 f ts) (b q : Nat) : Tn8 (f + 1) (ts ++ [(b, q, 16, ([nI f], false))]) := by
  refine ⟨by rw [List.length_append, H.1]; rfl, fun n hn => ?_⟩
  rcases Nat.lt_or_ge n f with c | c
  · obtain ⟨b1, q1, e⟩ := H.2 n c
    exact ⟨b1, q1, by rw [List.getElem?_append_left (by rw [H.1]; exact c)]; exact e⟩
  · have e : n = f := by omega
    refine ⟨b, q, ?_⟩
    rw [e, ← H.1]
    exact List.getElem?_concat_length
section F02
variable {la : Launch} {D : va_G} {cA : Nat → ClassId} {B0 pa : Nat}
set_option maxHeartbeats 4000000 in
theorem n5_empty (h : AH) {b q L : Nat} {c0 : TC} (T : TmX h b q L c0) : CT la D cA B0 pa yX5_empty cX5_empty 1 none (rmD 0 0 0) [.ref b] h (fun v h' => v = none ∧ TmX h' b q L ([], false) ∧ ∀ a : Nat, a ≠ b → a ≠ q → h' a = h a) := by
  refine CT_of (by decide +kernel) (Nat.le_of_ble_eq_true rfl) ?_
  intro p e s m args below meth c X E hr hlk hnm
  have dk : ∀ {pc : Nat} {q : Instr × Nat}, lkd DX5_empty pc = some q → decode cX5_empty pc = .ok q := lkd_ok DX5_empty_ok
  obtain ⟨a1, a2, xs, a3, a4, a5⟩ := T
  have hbq : b ≠ q := k_ne a2 a3 (by decide)
  iterate 2 refine fst1_ok X (dk rfl) rfl ?_
  refine putf_ok X flX5_21 ftX5_1 (Or.inl rfl) rfl rfl (dk rfl) a2 (Nat.le_of_ble_eq_true rfl) ?_
  iterate 2 refine fst1_ok X (dk rfl) rfl ?_
  refine putf_ok X flX5_25 ftX5_2 (Or.inl rfl) (by decide +kernel) (by decide +kernel) (dk rfl) (hup_self _ _ _) (Nat.le_of_ble_eq_true rfl) ?_
  rw [hup_hup]
  exact retv_ok X hr hlk (dk rfl) (⟨rfl, ⟨Nat.zero_le _, hup_self _ _ _, xs, by rw [hup_ne _ _ hbq.symm]; exact a3, a4, rfl⟩, fun a n1 _ => hup_ne _ _ n1⟩) (Nat.le_of_ble_eq_true rfl) (Nat.le_of_ble_eq_true rfl)
set_option maxHeartbeats 4000000 in
theorem n5_add (h : AH) {b q L : Nat} (T : TmX h b q L ([], false)) (hL : 1 ≤ L) (hL2 : L ≤ 256) (n : Nat) : CT la D cA B0 pa yX5_add cX5_add 2 none (rmD 0 0 0) [.ref b, vI n] h (fun v h' => v = none ∧ TmX h' b q L ([nI n], false) ∧ ∀ a : Nat, a ≠ b → a ≠ q → h' a = h a) := by
  refine CT_of (by decide +kernel) (Nat.le_of_ble_eq_true rfl) ?_
  intro p e s m args below meth c X E hr hlk hnm
  have dk : ∀ {pc : Nat} {q : Instr × Nat}, lkd DX5_add pc = some q → decode cX5_add pc = .ok q := lkd_ok DX5_add_ok
  obtain ⟨a1, a2, xs, a3, a4, a5⟩ := T
  have hbq : b ≠ q := k_ne a2 a3 (by decide)
  have a2 : h b = some (7, [.ref q, vI 0, .int (bI false)]) := a2
  refine fst1_ok X (dk rfl) rfl ?_
  refine getf_ok X flX5_21 (dk rfl) a2 rfl ?_
  refine br_ok X (dk rfl) rfl (show ((4 : Nat) : Int) + 38 = ((42 : Nat) : Int) from rfl) (fun q => absurd q (by decide)) (fun _ => ?_)
  refine fst1_ok X (dk rfl) rfl ?_
  refine getf_ok X flX5_21 (dk rfl) a2 rfl ?_
  refine fst1_ok X (dk rfl) rfl ?_
  refine getf_ok X flX5_15 (dk rfl) a2 rfl ?_
  refine alen7_ok X (dk rfl) a3 a4 ?_
  refine br_ok X (dk rfl) rfl (show ((16 : Nat) : Int) + 26 = ((42 : Nat) : Int) from rfl) (fun q => absurd q (nI_ge (by omega) (by omega))) (fun _ => ?_)
  refine fst1_ok X (dk rfl) rfl ?_
  refine getf_ok X flX5_15 (dk rfl) a2 rfl ?_
  refine fst1_ok X (dk rfl) rfl ?_
  refine getf_ok X flX5_21 (dk rfl) a2 rfl ?_
  refine fst1_ok X (dk rfl) rfl ?_
  refine ast7_ok X (dk rfl) a3 (by decide) (by rw [show (nI 0).toNatClampNeg = 0 from nI_clamp (by decide)]; omega) ?_
  rw [show (nI 0).toNatClampNeg = 0 from nI_clamp (by decide)]
  have a6 : hup h q (107, (xs.set 0 (nI n)).map Value.int) b = some (7, [.ref q, vI 0, .int (bI false)]) := by rw [hup_ne _ _ hbq]; exact a2
  iterate 2 refine fst1_ok X (dk rfl) rfl ?_
  refine getf_ok X flX5_21 (dk rfl) a6 rfl ?_
  iterate 2 refine fst1_ok X (dk rfl) rfl ?_
  rw [nI_1', nI_add]
  refine putf_ok X flX5_21 ftX5_1 (Or.inl rfl) rfl rfl (dk rfl) a6 (Nat.le_of_ble_eq_true rfl) ?_
  refine br_ok X (dk rfl) rfl (show ((39 : Nat) : Int) + 8 = ((47 : Nat) : Int) from rfl) (fun _ => ?_) (fun q => absurd trivial q)
  refine retv_ok X hr hlk (dk rfl) (⟨rfl, ⟨hL, hup_self _ _ _, xs.set 0 (nI n), by rw [hup_ne _ _ hbq.symm, hup_self], by rw [List.length_set]; exact a4, ?_⟩, fun a n1 n2 => by rw [hup_ne _ _ n1, hup_ne _ _ n2]⟩) (Nat.le_of_ble_eq_true rfl) (Nat.le_of_ble_eq_true rfl)
  cases xs with
  | nil => exact absurd a4 (by simp; omega)
  | cons x r => rfl
set_option maxHeartbeats 4000000 in
theorem n5_becomeName (h : AH) {b q L : Nat} {c0 : TC} (T : TmX h b q L c0) (hL : 1 ≤ L) (hL2 : L ≤ 256) (n : Nat) : CT la D cA B0 pa yX5_becomeName cX5_becomeName 2 none (rmD 1 0 0) [.ref b, vI n] h (fun v h' => v = none ∧ TmX h' b q L ([nI n], false) ∧ ∀ a : Nat, a ≠ b → a ≠ q → h' a = h a) := by
  refine CT_of (by decide +kernel) (Nat.le_of_ble_eq_true rfl) ?_
  intro p e s m args below meth c X E hr hlk hnm
  have dk : ∀ {pc : Nat} {q : Instr × Nat}, lkd DX5_becomeName pc = some q → decode cX5_becomeName pc = .ok q := lkd_ok DX5_becomeName_ok
  refine fst1_ok X (dk rfl) rfl ?_
  refine callV_ok (ci := 7) (T := TX5) (N := 3) (av := []) (r := []) X E (n5_empty h T) lkX5_empty mlX5_37 lmX5_empty lpX5_empty ⟨Nat.le_of_ble_eq_true rfl, Nat.le_of_ble_eq_true rfl⟩ ⟨Nat.le_of_ble_eq_true rfl, Nat.le_of_ble_eq_true rfl⟩ rfl (by obtain ⟨-, a2, -⟩ := T; exact a2) (Nat.le_of_ble_eq_true rfl) (dk rfl) ?_
  rintro _ h1 ⟨rfl, T1, f1⟩
  iterate 2 refine fst1_ok X (dk rfl) rfl ?_
  refine callV_ok (ci := 7) (T := TX5) (N := 3) (av := [vI n]) (r := []) X E (n5_add h1 T1 hL hL2 n) lkX5_add mlX5_33 lmX5_add lpX5_add ⟨Nat.le_of_ble_eq_true rfl, Nat.le_of_ble_eq_true rfl⟩ ⟨Nat.le_of_ble_eq_true rfl, Nat.le_of_ble_eq_true rfl⟩ rfl T1.2.1 (Nat.le_of_ble_eq_true rfl) (dk rfl) ?_
  rintro _ h2 ⟨rfl, T2, f2⟩
  exact retv_ok X hr hlk (dk rfl) (⟨rfl, T2, fun a n1 n2 => (f2 a n1 n2).trans (f1 a n1 n2)⟩) (Nat.le_of_ble_eq_true rfl) (Nat.le_of_ble_eq_true rfl)
set_option maxHeartbeats 16000000 in
theorem n0_init (h : AH) {o : Nat} (ho : h o = some (2, [.null])) : CT la D cA B0 pa yX0_init cX0_init 2 none (rmD 3 17 160) [.ref o] h (fun v h' => v = none ∧ ∃ (arr : Nat) (ts : List T4), h' o = some (2, [.ref arr]) ∧ h' arr = some (103, (ts.map (fun t => t.1)).map Value.ref) ∧ Tn8 8 ts ∧ h arr = none ∧ KL (fun a => a = o) h h' ts []) := by
  refine CT_of (by decide +kernel) (Nat.le_of_ble_eq_true rfl) ?_
  intro p e s m args below meth c X E hr hlk hnm
  have dk : ∀ {pc : Nat} {q : Instr × Nat}, lkd DX0_init pc = some q → decode cX0_init pc = .ok q := lkd_ok DX0_init_ok
  refine fst1_ok X (dk rfl) rfl ?_
  refine obj_ok X ml0_obj (dk rfl) (Nat.le_of_ble_eq_true rfl) (Nat.le_of_ble_eq_true rfl) (Nat.le_of_ble_eq_true rfl) ?_
  iterate 2 refine fst1_ok X (dk rfl) rfl ?_
  rw [show (Int8.ofInt 8).toInt32 = nI 8 by decide +kernel]
  refine newR_ok (N := 8) (kd := 103) X E (by decide) clX0_9 (by decide) (dk rfl) (Nat.le_of_ble_eq_true rfl) (Nat.le_of_ble_eq_true rfl) (fun q hq hBq => ?_)
  have hoq : o ≠ q := fun z => by rw [z, hq] at ho; cases ho
  refine putf_ok X flX0_11 ftX0_0 (Or.inr ⟨by rw [hnm]; rfl, RX0, TX0, 1, rfl, rfl⟩) rfl rfl (dk rfl) (by rw [hup_ne _ _ hoq]; exact ho) (Nat.le_of_ble_eq_true rfl) ?_
  have o1 : hup (hup h q (103, List.replicate 8 Value.null)) o (2, [Value.null].set 0 (.ref q)) o = some (2, [.ref q]) := hup_self _ _ _
  have q1 : hup (hup h q (103, List.replicate 8 Value.null)) o (2, [Value.null].set 0 (.ref q)) q = some (103, filR [] 8) := by rw [hup_ne _ _ hoq.symm, hup_self, filR_0]
  have K1 : KL (fun a => a = o ∨ a = q) h (hup (hup h q (103, List.replicate 8 Value.null)) o (2, [Value.null].set 0 (.ref q))) [] [] := ((KL.rf _ h).set (Or.inr rfl) _).set (Or.inl rfl) _
  generalize hup (hup h q (103, List.replicate 8 Value.null)) o (2, [Value.null].set 0 (.ref q)) = h1 at o1 q1 K1
  iterate 2 refine fst1_ok X (dk rfl) rfl ?_
  have loop : ∀ (d i : Nat), i + d = 8 → ∀ (hh : AH) (ts : List T4) (l : List (Nat × Value)), lsel l [1, 0] = [(1, vI i), (0, .ref o)] → Tn8 i ts → hh o = some (2, [.ref q]) → hh q = some (103, filR (ts.map (fun t => t.1)) 8) → KL (fun a => a = o ∨ a = q) h hh ts [] → WR p la e (rmD 3 17 160) s m args below meth c D cA B0 2 (fun v h' => v = none ∧ ∃ (arr : Nat) (ts : List T4), h' o = some (2, [.ref arr]) ∧ h' arr = some (103, (ts.map (fun t => t.1)).map Value.ref) ∧ Tn8 8 ts ∧ h arr = none ∧ KL (fun a => a = o) h h' ts []) 15 l [] hh (1 + 2 * i) (8 + 19 * i) := by
    intro d
    induction d with
    | zero =>
      intro i hi hh ts l hl ht oo qq K
      have hi2 : i = 8 := by omega
      subst hi2
      refine WS.sel [1, 0] hl ?_
      iterate 2 refine fst1_ok X (dk rfl) rfl ?_
      refine br_ok X (dk rfl) rfl (show ((18 : Nat) : Int) + 34 = ((52 : Nat) : Int) from rfl) (fun _ => ?_) (fun c1 => absurd (by decide) c1)
      have hlen : (ts.map (fun t => t.1)).length = 8 := by rw [List.length_map]; exact ht.1
      exact retv_ok X hr hlk (dk rfl) ⟨rfl, q, ts, oo, by rw [qq, ← hlen, filR_end], ht, hq, K.drop hq⟩ (Nat.le_of_ble_eq_true rfl) (Nat.le_of_ble_eq_true rfl)
    | succ d ih =>
      intro i hi hh ts l hl ht oo qq K
      have hla : (ts.map (fun t => t.1)).length = i := by rw [List.length_map]; exact ht.1
      have f2 : Value.int (nI i + Int32.ofInt 1) = vI (i + 1) := congrArg Value.int (by rw [nI_1', nI_add])
      have xo : ∀ a, (a = o ∨ a = q) → hh a ≠ none := fun a z w => by
        rcases z with rfl | rfl
        · rw [oo] at w; cases w
        · rw [qq] at w; cases w
      refine WS.sel [1, 0] hl ?_
      iterate 2 refine fst1_ok X (dk rfl) rfl ?_
      refine br_ok X (dk rfl) rfl (show ((18 : Nat) : Int) + 34 = ((52 : Nat) : Int) from rfl) (fun c1 => absurd c1 (nI_ge (a := i) (b := 8) (by omega) (by omega))) (fun _ => ?_)
      refine fst1_ok X (dk rfl) rfl ?_
      refine getf_ok X flX0_11 (dk rfl) oo rfl ?_
      refine fst1_ok X (dk rfl) rfl ?_
      refine new_ok X nc0_9 (dk rfl) (by show 1 + 2 * i + 1 ≤ 17; omega) (by show 8 + 19 * i + 3 ≤ 160; omega) (fun u hu hBu => ?_)
      iterate 2 refine fst1_ok X (dk rfl) rfl ?_
      rw [show (Int8.ofInt 16).toInt32 = nI 16 by decide +kernel]
      refine callI_ok (av := [.int (nI 16)]) (r := [.ref u, vI i, .ref q]) X E (n5_init _ (L := 16) (by omega) (hup_self _ _ _)) lkX5_init mlX0_17 lmX5_init rfl ⟨Nat.le_of_ble_eq_true rfl, Nat.le_of_ble_eq_true rfl⟩ ⟨by show 1 + 2 * i + 1 + 1 ≤ 17; omega, by show 8 + 19 * i + 3 + 16 ≤ 160; omega⟩ (Nat.le_of_ble_eq_true rfl) (dk rfl) ?_
      rintro v h2 ⟨rfl, w2, hw2, e2⟩
      have K2 := KL.term (ex := fun a => a = o ∨ a = q) (L := 16) xo hu hw2
      rw [← e2] at K2
      have nu : ∀ a, hh a ≠ none → a ≠ u := fun a z y => z (by rw [y]; exact hu)
      have nw : ∀ a, hh a ≠ none → a ≠ w2 := fun a z y => z (by rw [hup_ne _ _ (fun y2 => by rw [y2, hup_self] at hw2; cases hw2)] at hw2; rw [y]; exact hw2)
      have kp2 : ∀ a, hh a ≠ none → h2 a = hh a := fun a z => by rw [e2, hup_ne _ _ (nu a z), hup_ne _ _ (nw a z), hup_ne _ _ (nu a z)]
      have oo2 : h2 o = some (2, [.ref q]) := by rw [kp2 o (xo o (Or.inl rfl))]; exact oo
      have qq2 : h2 q = some (103, filR (ts.map (fun t => t.1)) 8) := by rw [kp2 q (xo q (Or.inr rfl))]; exact qq
      have T2 := (K2.2.2.2.2.2.1 _ List.mem_cons_self).2.2.2.2
      have T2 : TmX h2 u w2 16 ([], false) := T2
      have nuq : u ≠ q := (nu q (xo q (Or.inr rfl))).symm
      have nwq : w2 ≠ q := (nw q (xo q (Or.inr rfl))).symm
      have hln : (filR (ts.map (fun t => t.1)) 8).length = 8 := filR_len (by omega)
      refine WS.widen (k' := 1 + 2 * (i + 1)) (n' := 8 + 19 * (i + 1)) (by show 1 + 2 * i + 1 + 1 ≤ 1 + 2 * (i + 1); omega) (by show 8 + 19 * i + 3 + 16 ≤ 8 + 19 * (i + 1); omega) ?_
      refine ast_ok X (Or.inr (Or.inr (Or.inl ⟨rfl, rfl, u, _, rfl, T2.2.1⟩))) (dk rfl) qq2 ⟨nI_pos (by omega), by rw [nI_clamp (by omega), hln]; omega⟩ ?_
      rw [nI_clamp (n := i) (by omega), show (filR (ts.map (fun t => t.1)) 8).set i (.ref u) = filR (ts.map (fun t => t.1) ++ [u]) 8 by rw [← hla]; exact filR_set (by omega)]
      have K3 := K2.set (a := q) (Or.inr rfl) (103, filR (ts.map (fun t => t.1) ++ [u]) 8)
      have T3 : TmX (hup h2 q (103, filR (ts.map (fun t => t.1) ++ [u]) 8)) u w2 16 ([], false) := T2.kp (fun a cc ha hc => by rw [hup_ne _ _ (by rcases ha with rfl | rfl <;> assumption)]; exact hc)
      have oo3 : hup h2 q (103, filR (ts.map (fun t => t.1) ++ [u]) 8) o = some (2, [.ref q]) := by rw [hup_ne _ _ hoq]; exact oo2
      have qq3 : hup h2 q (103, filR (ts.map (fun t => t.1) ++ [u]) 8) q = some (103, filR (ts.map (fun t => t.1) ++ [u]) 8) := hup_self _ _ _
      generalize hup h2 q (103, filR (ts.map (fun t => t.1) ++ [u]) 8) = h3 at K3 T3 oo3 qq3
      refine fst1_ok X (dk rfl) rfl ?_
      refine getf_ok X flX0_11 (dk rfl) oo3 rfl ?_
      refine fst1_ok X (dk rfl) rfl ?_
      refine ald_ok X (Or.inr (Or.inr ⟨rfl, by decide, by decide⟩)) (dk rfl) qq3 (inA_nI (v := .ref u) (by omega) (by rw [← hla]; exact filR_at _ u 8)) ?_
      refine fst1_ok X (dk rfl) rfl ?_
      refine callV_ok (ci := 7) (T := TX5) (N := 3) (av := [vI i]) (r := []) X E (n5_becomeName h3 T3 (by decide) (by decide) i) lkX5_becomeName mlX0_20 lmX5_becomeName lpX5_becomeName ⟨Nat.le_of_ble_eq_true rfl, Nat.le_of_ble_eq_true rfl⟩ ⟨by show 1 + 2 * (i + 1) ≤ 17; omega, by show 8 + 19 * (i + 1) ≤ 160; omega⟩ rfl T3.2.1 (Nat.le_of_ble_eq_true rfl) (dk rfl) ?_
      rintro v h4 ⟨rfl, T4', f4⟩
      have K4 := K.tr (K3.bn T4' f4)
      have nou : o ≠ u := nu o (xo o (Or.inl rfl))
      have now : o ≠ w2 := nw o (xo o (Or.inl rfl))
      refine fst1_ok X (dk rfl) rfl ?_
      refine br_ok X (dk rfl) rfl (show ((49 : Nat) : Int) + (-34) = ((15 : Nat) : Int) from rfl) (fun _ => ?_) (fun q => absurd trivial q)
      refine WS.sel (l' := [(1, vI (i + 1)), (0, .ref o)]) [1, 0] (by rw [← f2]; rfl) ?_
      refine WS.widen (k' := 1 + 2 * (i + 1)) (n' := 8 + 19 * (i + 1)) (Nat.le_refl _) (Nat.le_refl _) ?_
      exact ih (i + 1) (by omega) h4 (ts ++ [(u, w2, 16, ([nI i], false))]) _ rfl (ht.add u w2) (by rw [f4 o nou now]; exact oo3) (by rw [f4 q nuq.symm nwq.symm, List.map_append]; exact qq3) K4
  exact loop 8 0 rfl h1 [] _ rfl ⟨rfl, fun n hn => absurd hn (Nat.not_lt_zero n)⟩ o1 q1 K1
end F02
end Uf02new2
section Uf03new3
/-! a new object of the class, strongly (printed by wip/p20/genN3.py) -/
def OB (ex : Nat → Prop) (h : AH) (L : List (Nat × AC)) : Prop := ∀ x ∈ L, ¬ ex x.1 ∧ h x.1 = some x.2
def AL (ex : Nat → Prop) (h : AH) (L : List (Nat × Nat × List T4)) : Prop := ∀ x ∈ L, Tn8 8 x.2.2 ∧ ¬ ex x.1 ∧ ¬ ex x.2.1 ∧ h x.1 = some (2, [.ref x.2.1]) ∧ h x.2.1 = some (103, (x.2.2.map (fun t => t.1)).map Value.ref)
section OBs
variable {ex : Nat → Prop} {h h1 : AH} {L L2 : List (Nat × AC)} {N N2 : List (Nat × Nat × List T4)} {ts : List T4} {rs : List (Nat × Nat)}
theorem OB.nil : OB ex h [] := fun x hx => (by cases hx)
theorem OB.kl (B : OB ex h L) (K : KL ex h h1 ts rs) : OB ex h1 L := fun x hx => ⟨(B x hx).1, K.1 _ _ (B x hx).1 (B x hx).2⟩
theorem OB.set (B : OB ex h L) {a : Nat} (ha : ex a) (c : AC) : OB ex (hup h a c) L := fun x hx => ⟨(B x hx).1, by rw [hup_ne _ _ (fun z => (B x hx).1 (by rw [z]; exact ha))]; exact (B x hx).2⟩
theorem OB.app (B : OB ex h L) (B2 : OB ex h L2) : OB ex h (L ++ L2) := fun x hx => (List.mem_append.mp hx).elim (B x) (B2 x)
theorem OB.one {a : Nat} {c : AC} (ha : ¬ ex a) (e : h a = some c) : OB ex h [(a, c)] := fun x hx => by rw [List.mem_singleton.mp hx]; exact ⟨ha, e⟩
theorem AL.nil : AL ex h [] := fun x hx => (by cases hx)
theorem AL.kl (B : AL ex h N) (K : KL ex h h1 ts rs) : AL ex h1 N := fun x hx => by
  obtain ⟨b1, b2, b3, b4, b5⟩ := B x hx
  exact ⟨b1, b2, b3, K.1 _ _ b2 b4, K.1 _ _ b3 b5⟩
theorem AL.set (B : AL ex h N) {a : Nat} (ha : ex a) (c : AC) : AL ex (hup h a c) N := fun x hx => by
  obtain ⟨b1, b2, b3, b4, b5⟩ := B x hx
  exact ⟨b1, b2, b3, by rw [hup_ne _ _ (fun z => b2 (by rw [z]; exact ha))]; exact b4, by rw [hup_ne _ _ (fun z => b3 (by rw [z]; exact ha))]; exact b5⟩
theorem AL.app (B : AL ex h N) (B2 : AL ex h N2) : AL ex h (N ++ N2) := fun x hx => (List.mem_append.mp hx).elim (B x) (B2 x)
theorem AL.one {u ar : Nat} {t : List T4} (ht : Tn8 8 t) (hu : ¬ ex u) (ha : ¬ ex ar) (e1 : h u = some (2, [.ref ar])) (e2 : h ar = some (103, (t.map (fun t => t.1)).map Value.ref)) : AL ex h [(u, ar, t)] := fun x hx => by rw [List.mem_singleton.mp hx]; exact ⟨ht, hu, ha, e1, e2⟩
end OBs
abbrev ex3 (o S A : Nat) : Nat → Prop := fun a => (a = o ∨ a = S) ∨ a = A
section F03
variable {la : Launch} {D : va_G} {cA : Nat → ClassId} {B0 pa : Nat}
set_option maxHeartbeats 64000000 in
theorem n6_init (h : AH) {o : Nat} (ho : h o = some (8, [.null, .null, .int 0, .int 0, .int 0, .null, .null, .null, .null, .null, .null, .null, .null, .null])) : CT la D cA B0 pa yX6_init cX6_init 2 none (rmD 5 140 2500) [.ref o] h (fun v h' => v = none ∧ ∃ (S A u1 u2 u3 u4 u5 u6 u7 u8 u9 q1 q2 q3 q4 ar5 ar6 b7 c7 r7 p7 d7 e7 b8 c8 r8 s8 f8 p8 d8 e8 p9 d9 e9 : Nat) (t5 t6 tS : List T4) (N : List (Nat × Nat × List T4)), h' o = some (8, [.ref S, .ref A, .int 0, .int 0, .int 0, .ref u1, .ref u2, .ref u3, .ref u4, .ref u5, .ref u6, .ref u7, .ref u8, .ref u9]) ∧ h' S = some (103, (tS.map (fun t => t.1)).map Value.ref) ∧ h' A = some (104, (N.map (fun x => x.1)).map Value.ref) ∧ Tn8 6 tS ∧ N.length = 3 ∧ OB (fun a => a = o) h' ((((((((([] ++ []) ++ []) ++ []) ++ []) ++ []) ++ []) ++ [(u7, (6, [.ref b7, .ref r7, .ref p7, .int 0, .int 0])), (p7, (4, [.ref d7, .ref e7, vI 0]))]) ++ [(u8, (3, [.ref b8, .ref r8, .ref s8, .ref f8, .ref p8])), (p8, (4, [.ref d8, .ref e8, vI 0]))]) ++ [(u9, (5, [.ref p9])), (p9, (4, [.ref d9, .ref e9, vI 0]))]) ∧ AL (fun a => a = o) h' (((((((((([] ++ []) ++ []) ++ []) ++ []) ++ [(u5, ar5, t5)]) ++ [(u6, ar6, t6)]) ++ []) ++ []) ++ []) ++ N) ∧ KL (fun a => a = o) h h' ((((((((((([] ++ [(u1, q1, 16, ([], false))]) ++ [(u2, q2, 16, ([], false))]) ++ [(u3, q3, 256, ([], false))]) ++ [(u4, q4, 256, ([], false))]) ++ t5) ++ t6) ++ [(b7, c7, 32, ([], false))]) ++ [(b8, c8, 32, ([], false))]) ++ []) ++ tS) ++ N.flatMap (fun x => x.2.2)) ((((((((([] ++ []) ++ []) ++ []) ++ []) ++ []) ++ []) ++ [(r7, 8), (d7, 128), (e7, 128)]) ++ [(r8, 32), (s8, 32), (f8, 8), (d8, 128), (e8, 128)]) ++ [(d9, 128), (e9, 128)])) := by
  refine CT_of (by decide +kernel) (Nat.le_of_ble_eq_true rfl) ?_
  intro p e s m args below meth c X E hr hlk hnm
  have dk : ∀ {pc : Nat} {q : Instr × Nat}, lkd DX6_init pc = some q → decode cX6_init pc = .ok q := lkd_ok DX6_init_ok
  refine fst1_ok X (dk rfl) rfl ?_
  refine obj_ok X ml6_obj (dk rfl) (Nat.le_of_ble_eq_true rfl) (Nat.le_of_ble_eq_true rfl) (Nat.le_of_ble_eq_true rfl) ?_
  iterate 2 refine fst1_ok X (dk rfl) rfl ?_
  rw [show (Int8.ofInt 6).toInt32 = nI 6 by decide +kernel]
  refine newR_ok (N := 6) (kd := 103) X E (by decide) clX6_9 (by decide) (dk rfl) (Nat.le_of_ble_eq_true rfl) (Nat.le_of_ble_eq_true rfl) (fun S hS hBS => ?_)
  have hoS : o ≠ S := fun z => by rw [z, hS] at ho; cases ho
  refine putf_ok X flX6_11 ftX6_0 (Or.inr ⟨by rw [hnm]; rfl, RX6, TX6, 14, rfl, rfl⟩) rfl rfl (dk rfl) (by rw [hup_ne _ _ hoS]; exact ho) (Nat.le_of_ble_eq_true rfl) ?_
  have oa1 : hup (hup h S (103, List.replicate 6 Value.null)) o (8, ([.null, .null, .int 0, .int 0, .int 0, .null, .null, .null, .null, .null, .null, .null, .null, .null] : List Value).set 0 (.ref S)) o = some (8, [.ref S, .null, .int 0, .int 0, .int 0, .null, .null, .null, .null, .null, .null, .null, .null, .null]) := hup_self _ _ _
  have hS1 : hup (hup h S (103, List.replicate 6 Value.null)) o (8, ([.null, .null, .int 0, .int 0, .int 0, .null, .null, .null, .null, .null, .null, .null, .null, .null] : List Value).set 0 (.ref S)) S = some (103, filR [] 6) := by rw [hup_ne _ _ hoS.symm, hup_self, filR_0]
  have K00 : ∀ A : Nat, KL (ex3 o S A) h (hup (hup h S (103, List.replicate 6 Value.null)) o (8, ([.null, .null, .int 0, .int 0, .int 0, .null, .null, .null, .null, .null, .null, .null, .null, .null] : List Value).set 0 (.ref S))) [] [] := fun A => ((KL.rf _ h).set (Or.inl (Or.inr rfl)) _).set (Or.inl (Or.inl rfl)) _
  have hn1 : ∀ a : Nat, hup (hup h S (103, List.replicate 6 Value.null)) o (8, ([.null, .null, .int 0, .int 0, .int 0, .null, .null, .null, .null, .null, .null, .null, .null, .null] : List Value).set 0 (.ref S)) a = none → h a = none := fun a z => by
    have y1 : a ≠ o := fun y => by rw [y, hup_self] at z; cases z
    have y2 : a ≠ S := fun y => by rw [y, hup_ne _ _ hoS.symm, hup_self] at z; cases z
    rw [hup_ne _ _ y1, hup_ne _ _ y2] at z
    exact z
  generalize hup (hup h S (103, List.replicate 6 Value.null)) o (8, ([.null, .null, .int 0, .int 0, .int 0, .null, .null, .null, .null, .null, .null, .null, .null, .null] : List Value).set 0 (.ref S)) = h1 at oa1 hS1 K00 hn1
  iterate 2 refine fst1_ok X (dk rfl) rfl ?_
  rw [show Int32.ofInt 3 = nI 3 by decide +kernel]
  refine newR_ok (N := 3) (kd := 104) X E (by decide) clX6_15 (by decide) (dk rfl) (Nat.le_of_ble_eq_true rfl) (Nat.le_of_ble_eq_true rfl) (fun A hA hBA => ?_)
  have hoA : o ≠ A := fun z => by rw [z, hA] at oa1; cases oa1
  have hSA : S ≠ A := fun z => by rw [z, hA] at hS1; cases hS1
  have hA0 := hn1 A hA
  refine putf_ok X flX6_17 ftX6_1 (Or.inr ⟨by rw [hnm]; rfl, RX6, TX6, 14, rfl, rfl⟩) rfl rfl (dk rfl) (by rw [hup_ne _ _ hoA]; exact oa1) (Nat.le_of_ble_eq_true rfl) ?_
  have o0 : hup (hup h1 A (104, List.replicate 3 Value.null)) o (8, ([.ref S, .null, .int 0, .int 0, .int 0, .null, .null, .null, .null, .null, .null, .null, .null, .null] : List Value).set 1 (.ref A)) o = some (8, [.ref S, .ref A, .int 0, .int 0, .int 0, .null, .null, .null, .null, .null, .null, .null, .null, .null]) := hup_self _ _ _
  have S0 : hup (hup h1 A (104, List.replicate 3 Value.null)) o (8, ([.ref S, .null, .int 0, .int 0, .int 0, .null, .null, .null, .null, .null, .null, .null, .null, .null] : List Value).set 1 (.ref A)) S = some (103, filR [] 6) := by rw [hup_ne _ _ hoS.symm, hup_ne _ _ hSA]; exact hS1
  have A0 : hup (hup h1 A (104, List.replicate 3 Value.null)) o (8, ([.ref S, .null, .int 0, .int 0, .int 0, .null, .null, .null, .null, .null, .null, .null, .null, .null] : List Value).set 1 (.ref A)) A = some (104, filR [] 3) := by rw [hup_ne _ _ hoA.symm, hup_self, filR_0]
  have K0 : KL (ex3 o S A) h (hup (hup h1 A (104, List.replicate 3 Value.null)) o (8, ([.ref S, .null, .int 0, .int 0, .int 0, .null, .null, .null, .null, .null, .null, .null, .null, .null] : List Value).set 1 (.ref A))) [] [] := ((K00 A).set (Or.inr rfl) _).set (Or.inl (Or.inl rfl)) _
  generalize hup (hup h1 A (104, List.replicate 3 Value.null)) o (8, ([.ref S, .null, .int 0, .int 0, .int 0, .null, .null, .null, .null, .null, .null, .null, .null, .null] : List Value).set 1 (.ref A)) = H0 at o0 S0 A0 K0
  have xo : ∀ {hh : AH} {x y z : AC}, hh o = some x → hh S = some y → hh A = some z → ∀ a, ex3 o S A a → hh a ≠ none := fun {hh x y z} e1 e2 e3 a w => by
    rcases w with (rfl | rfl) | rfl
    · rw [e1]; intro q; cases q
    · rw [e2]; intro q; cases q
    · rw [e3]; intro q; cases q
  have nk : ∀ {hh : AH} {a k : Nat} {fs : List Value} {x y z : List Value}, hh o = some (8, x) → hh S = some (103, y) → hh A = some (104, z) → hh a = some (k, fs) → k ≠ 8 → k ≠ 103 → k ≠ 104 → ¬ ex3 o S A a := fun {hh a k fs x y z} e1 e2 e3 e4 n1 n2 n3 w => by
    rcases w with (w | w) | w
    · exact k_ne e4 e1 n1 w
    · exact k_ne e4 e2 n2 w
    · exact k_ne e4 e3 n3 w
  have OBz0 : OB (ex3 o S A) H0 [] := OB.nil
  have ALz0 : AL (ex3 o S A) H0 [] := AL.nil
  refine fst1_ok X (dk rfl) rfl ?_
  refine new_ok X nc6_9 (dk rfl) (by first | exact Nat.le_of_ble_eq_true rfl | (show _ ≤ _; omega)) (by first | exact Nat.le_of_ble_eq_true rfl | (show _ ≤ _; omega)) (fun u1 hu1 hBu1 => ?_)
  iterate 2 refine fst1_ok X (dk rfl) rfl ?_
  rw [show (Int8.ofInt 16).toInt32 = nI 16 by decide +kernel]
  refine callI_ok (av := [.int (nI 16)]) (r := [.ref u1, .ref o]) X E (n5_init _ (L := 16) (by omega) (hup_self _ _ _)) lkX5_init mlX6_21 lmX5_init rfl ⟨Nat.le_of_ble_eq_true rfl, Nat.le_of_ble_eq_true rfl⟩ ⟨Nat.le_of_ble_eq_true rfl, Nat.le_of_ble_eq_true rfl⟩ (Nat.le_of_ble_eq_true rfl) (dk rfl) ?_
  rintro v H1a ⟨rfl, q1, hq1, eH1⟩
  have K1b := KL.term (ex := (ex3 o S A)) (L := 16) (xo o0 S0 A0) hu1 hq1
  rw [← eH1] at K1b
  have nu1 : ∀ a, H0 a ≠ none → a ≠ u1 := fun a z y => z (by rw [y]; exact hu1)
  have nq1 : ∀ a, H0 a ≠ none → a ≠ q1 := fun a z y => z (by rw [hup_ne _ _ (fun y2 => by rw [y2, hup_self] at hq1; cases hq1)] at hq1; rw [y]; exact hq1)
  have kp1 : ∀ a, H0 a ≠ none → H1a a = H0 a := fun a z => by rw [eH1, hup_ne _ _ (nu1 a z), hup_ne _ _ (nq1 a z), hup_ne _ _ (nu1 a z)]
  have o1a := (kp1 o (xo o0 S0 A0 _ (Or.inl (Or.inl rfl)))).trans o0
  have S1a := (kp1 S (xo o0 S0 A0 _ (Or.inl (Or.inr rfl)))).trans S0
  have A1a := (kp1 A (xo o0 S0 A0 _ (Or.inr rfl))).trans A0
  have OBm1 : OB (ex3 o S A) H1a [] := OB.nil
  have ALm1 : AL (ex3 o S A) H1a [] := AL.nil
  refine putf_ok X flX6_24 ftX6_5 (Or.inr ⟨by rw [hnm]; rfl, RX6, TX6, 14, rfl, rfl⟩) rfl rfl (dk rfl) o1a (Nat.le_of_ble_eq_true rfl) ?_
  have o1 : hup H1a o (8, ([.ref S, .ref A, .int 0, .int 0, .int 0, .null, .null, .null, .null, .null, .null, .null, .null, .null] : List Value).set 5 (.ref u1)) o = some (8, [.ref S, .ref A, .int 0, .int 0, .int 0, .ref u1, .null, .null, .null, .null, .null, .null, .null, .null]) := hup_self _ _ _
  have S1 : hup H1a o (8, ([.ref S, .ref A, .int 0, .int 0, .int 0, .null, .null, .null, .null, .null, .null, .null, .null, .null] : List Value).set 5 (.ref u1)) S = some (103, filR [] 6) := by rw [hup_ne _ _ hoS.symm]; exact S1a
  have A1 : hup H1a o (8, ([.ref S, .ref A, .int 0, .int 0, .int 0, .null, .null, .null, .null, .null, .null, .null, .null, .null] : List Value).set 5 (.ref u1)) A = some (104, filR [] 3) := by rw [hup_ne _ _ hoA.symm]; exact A1a
  have K1 := (K0.tr K1b).set (a := o) (Or.inl (Or.inl rfl)) (8, ([.ref S, .ref A, .int 0, .int 0, .int 0, .null, .null, .null, .null, .null, .null, .null, .null, .null] : List Value).set 5 (.ref u1))
  have OBz1 := ((OBz0.kl K1b).app OBm1).set (a := o) (Or.inl (Or.inl rfl)) (8, ([.ref S, .ref A, .int 0, .int 0, .int 0, .null, .null, .null, .null, .null, .null, .null, .null, .null] : List Value).set 5 (.ref u1))
  have ALz1 := ((ALz0.kl K1b).app ALm1).set (a := o) (Or.inl (Or.inl rfl)) (8, ([.ref S, .ref A, .int 0, .int 0, .int 0, .null, .null, .null, .null, .null, .null, .null, .null, .null] : List Value).set 5 (.ref u1))
  generalize hup H1a o (8, ([.ref S, .ref A, .int 0, .int 0, .int 0, .null, .null, .null, .null, .null, .null, .null, .null, .null] : List Value).set 5 (.ref u1)) = H1 at o1 S1 A1 K1 OBz1 ALz1
  refine fst1_ok X (dk rfl) rfl ?_
  refine new_ok X nc6_9 (dk rfl) (by first | exact Nat.le_of_ble_eq_true rfl | (show _ ≤ _; omega)) (by first | exact Nat.le_of_ble_eq_true rfl | (show _ ≤ _; omega)) (fun u2 hu2 hBu2 => ?_)
  iterate 2 refine fst1_ok X (dk rfl) rfl ?_
  rw [show (Int8.ofInt 16).toInt32 = nI 16 by decide +kernel]
  refine callI_ok (av := [.int (nI 16)]) (r := [.ref u2, .ref o]) X E (n5_init _ (L := 16) (by omega) (hup_self _ _ _)) lkX5_init mlX6_21 lmX5_init rfl ⟨Nat.le_of_ble_eq_true rfl, Nat.le_of_ble_eq_true rfl⟩ ⟨Nat.le_of_ble_eq_true rfl, Nat.le_of_ble_eq_true rfl⟩ (Nat.le_of_ble_eq_true rfl) (dk rfl) ?_
  rintro v H2a ⟨rfl, q2, hq2, eH2⟩
  have K2b := KL.term (ex := (ex3 o S A)) (L := 16) (xo o1 S1 A1) hu2 hq2
  rw [← eH2] at K2b
  have nu2 : ∀ a, H1 a ≠ none → a ≠ u2 := fun a z y => z (by rw [y]; exact hu2)
  have nq2 : ∀ a, H1 a ≠ none → a ≠ q2 := fun a z y => z (by rw [hup_ne _ _ (fun y2 => by rw [y2, hup_self] at hq2; cases hq2)] at hq2; rw [y]; exact hq2)
  have kp2 : ∀ a, H1 a ≠ none → H2a a = H1 a := fun a z => by rw [eH2, hup_ne _ _ (nu2 a z), hup_ne _ _ (nq2 a z), hup_ne _ _ (nu2 a z)]
  have o2a := (kp2 o (xo o1 S1 A1 _ (Or.inl (Or.inl rfl)))).trans o1
  have S2a := (kp2 S (xo o1 S1 A1 _ (Or.inl (Or.inr rfl)))).trans S1
  have A2a := (kp2 A (xo o1 S1 A1 _ (Or.inr rfl))).trans A1
  have OBm2 : OB (ex3 o S A) H2a [] := OB.nil
  have ALm2 : AL (ex3 o S A) H2a [] := AL.nil
  refine putf_ok X flX6_28 ftX6_6 (Or.inr ⟨by rw [hnm]; rfl, RX6, TX6, 14, rfl, rfl⟩) rfl rfl (dk rfl) o2a (Nat.le_of_ble_eq_true rfl) ?_
  have o2 : hup H2a o (8, ([.ref S, .ref A, .int 0, .int 0, .int 0, .ref u1, .null, .null, .null, .null, .null, .null, .null, .null] : List Value).set 6 (.ref u2)) o = some (8, [.ref S, .ref A, .int 0, .int 0, .int 0, .ref u1, .ref u2, .null, .null, .null, .null, .null, .null, .null]) := hup_self _ _ _
  have S2 : hup H2a o (8, ([.ref S, .ref A, .int 0, .int 0, .int 0, .ref u1, .null, .null, .null, .null, .null, .null, .null, .null] : List Value).set 6 (.ref u2)) S = some (103, filR [] 6) := by rw [hup_ne _ _ hoS.symm]; exact S2a
  have A2 : hup H2a o (8, ([.ref S, .ref A, .int 0, .int 0, .int 0, .ref u1, .null, .null, .null, .null, .null, .null, .null, .null] : List Value).set 6 (.ref u2)) A = some (104, filR [] 3) := by rw [hup_ne _ _ hoA.symm]; exact A2a
  have K2 := (K1.tr K2b).set (a := o) (Or.inl (Or.inl rfl)) (8, ([.ref S, .ref A, .int 0, .int 0, .int 0, .ref u1, .null, .null, .null, .null, .null, .null, .null, .null] : List Value).set 6 (.ref u2))
  have OBz2 := ((OBz1.kl K2b).app OBm2).set (a := o) (Or.inl (Or.inl rfl)) (8, ([.ref S, .ref A, .int 0, .int 0, .int 0, .ref u1, .null, .null, .null, .null, .null, .null, .null, .null] : List Value).set 6 (.ref u2))
  have ALz2 := ((ALz1.kl K2b).app ALm2).set (a := o) (Or.inl (Or.inl rfl)) (8, ([.ref S, .ref A, .int 0, .int 0, .int 0, .ref u1, .null, .null, .null, .null, .null, .null, .null, .null] : List Value).set 6 (.ref u2))
  generalize hup H2a o (8, ([.ref S, .ref A, .int 0, .int 0, .int 0, .ref u1, .null, .null, .null, .null, .null, .null, .null, .null] : List Value).set 6 (.ref u2)) = H2 at o2 S2 A2 K2 OBz2 ALz2
  refine fst1_ok X (dk rfl) rfl ?_
  refine new_ok X nc6_9 (dk rfl) (by first | exact Nat.le_of_ble_eq_true rfl | (show _ ≤ _; omega)) (by first | exact Nat.le_of_ble_eq_true rfl | (show _ ≤ _; omega)) (fun u3 hu3 hBu3 => ?_)
  iterate 2 refine fst1_ok X (dk rfl) rfl ?_
  rw [show (Int16.ofInt 256).toInt32 = nI 256 by decide +kernel]
  refine callI_ok (av := [.int (nI 256)]) (r := [.ref u3, .ref o]) X E (n5_init _ (L := 256) (by omega) (hup_self _ _ _)) lkX5_init mlX6_21 lmX5_init rfl ⟨Nat.le_of_ble_eq_true rfl, Nat.le_of_ble_eq_true rfl⟩ ⟨Nat.le_of_ble_eq_true rfl, Nat.le_of_ble_eq_true rfl⟩ (Nat.le_of_ble_eq_true rfl) (dk rfl) ?_
  rintro v H3a ⟨rfl, q3, hq3, eH3⟩
  have K3b := KL.term (ex := (ex3 o S A)) (L := 256) (xo o2 S2 A2) hu3 hq3
  rw [← eH3] at K3b
  have nu3 : ∀ a, H2 a ≠ none → a ≠ u3 := fun a z y => z (by rw [y]; exact hu3)
  have nq3 : ∀ a, H2 a ≠ none → a ≠ q3 := fun a z y => z (by rw [hup_ne _ _ (fun y2 => by rw [y2, hup_self] at hq3; cases hq3)] at hq3; rw [y]; exact hq3)
  have kp3 : ∀ a, H2 a ≠ none → H3a a = H2 a := fun a z => by rw [eH3, hup_ne _ _ (nu3 a z), hup_ne _ _ (nq3 a z), hup_ne _ _ (nu3 a z)]
  have o3a := (kp3 o (xo o2 S2 A2 _ (Or.inl (Or.inl rfl)))).trans o2
  have S3a := (kp3 S (xo o2 S2 A2 _ (Or.inl (Or.inr rfl)))).trans S2
  have A3a := (kp3 A (xo o2 S2 A2 _ (Or.inr rfl))).trans A2
  have OBm3 : OB (ex3 o S A) H3a [] := OB.nil
  have ALm3 : AL (ex3 o S A) H3a [] := AL.nil
  refine putf_ok X flX6_31 ftX6_7 (Or.inr ⟨by rw [hnm]; rfl, RX6, TX6, 14, rfl, rfl⟩) rfl rfl (dk rfl) o3a (Nat.le_of_ble_eq_true rfl) ?_
  have o3 : hup H3a o (8, ([.ref S, .ref A, .int 0, .int 0, .int 0, .ref u1, .ref u2, .null, .null, .null, .null, .null, .null, .null] : List Value).set 7 (.ref u3)) o = some (8, [.ref S, .ref A, .int 0, .int 0, .int 0, .ref u1, .ref u2, .ref u3, .null, .null, .null, .null, .null, .null]) := hup_self _ _ _
  have S3 : hup H3a o (8, ([.ref S, .ref A, .int 0, .int 0, .int 0, .ref u1, .ref u2, .null, .null, .null, .null, .null, .null, .null] : List Value).set 7 (.ref u3)) S = some (103, filR [] 6) := by rw [hup_ne _ _ hoS.symm]; exact S3a
  have A3 : hup H3a o (8, ([.ref S, .ref A, .int 0, .int 0, .int 0, .ref u1, .ref u2, .null, .null, .null, .null, .null, .null, .null] : List Value).set 7 (.ref u3)) A = some (104, filR [] 3) := by rw [hup_ne _ _ hoA.symm]; exact A3a
  have K3 := (K2.tr K3b).set (a := o) (Or.inl (Or.inl rfl)) (8, ([.ref S, .ref A, .int 0, .int 0, .int 0, .ref u1, .ref u2, .null, .null, .null, .null, .null, .null, .null] : List Value).set 7 (.ref u3))
  have OBz3 := ((OBz2.kl K3b).app OBm3).set (a := o) (Or.inl (Or.inl rfl)) (8, ([.ref S, .ref A, .int 0, .int 0, .int 0, .ref u1, .ref u2, .null, .null, .null, .null, .null, .null, .null] : List Value).set 7 (.ref u3))
  have ALz3 := ((ALz2.kl K3b).app ALm3).set (a := o) (Or.inl (Or.inl rfl)) (8, ([.ref S, .ref A, .int 0, .int 0, .int 0, .ref u1, .ref u2, .null, .null, .null, .null, .null, .null, .null] : List Value).set 7 (.ref u3))
  generalize hup H3a o (8, ([.ref S, .ref A, .int 0, .int 0, .int 0, .ref u1, .ref u2, .null, .null, .null, .null, .null, .null, .null] : List Value).set 7 (.ref u3)) = H3 at o3 S3 A3 K3 OBz3 ALz3
  refine fst1_ok X (dk rfl) rfl ?_
  refine new_ok X nc6_9 (dk rfl) (by first | exact Nat.le_of_ble_eq_true rfl | (show _ ≤ _; omega)) (by first | exact Nat.le_of_ble_eq_true rfl | (show _ ≤ _; omega)) (fun u4 hu4 hBu4 => ?_)
  iterate 2 refine fst1_ok X (dk rfl) rfl ?_
  rw [show (Int16.ofInt 256).toInt32 = nI 256 by decide +kernel]
  refine callI_ok (av := [.int (nI 256)]) (r := [.ref u4, .ref o]) X E (n5_init _ (L := 256) (by omega) (hup_self _ _ _)) lkX5_init mlX6_21 lmX5_init rfl ⟨Nat.le_of_ble_eq_true rfl, Nat.le_of_ble_eq_true rfl⟩ ⟨Nat.le_of_ble_eq_true rfl, Nat.le_of_ble_eq_true rfl⟩ (Nat.le_of_ble_eq_true rfl) (dk rfl) ?_
  rintro v H4a ⟨rfl, q4, hq4, eH4⟩
  have K4b := KL.term (ex := (ex3 o S A)) (L := 256) (xo o3 S3 A3) hu4 hq4
  rw [← eH4] at K4b
  have nu4 : ∀ a, H3 a ≠ none → a ≠ u4 := fun a z y => z (by rw [y]; exact hu4)
  have nq4 : ∀ a, H3 a ≠ none → a ≠ q4 := fun a z y => z (by rw [hup_ne _ _ (fun y2 => by rw [y2, hup_self] at hq4; cases hq4)] at hq4; rw [y]; exact hq4)
  have kp4 : ∀ a, H3 a ≠ none → H4a a = H3 a := fun a z => by rw [eH4, hup_ne _ _ (nu4 a z), hup_ne _ _ (nq4 a z), hup_ne _ _ (nu4 a z)]
  have o4a := (kp4 o (xo o3 S3 A3 _ (Or.inl (Or.inl rfl)))).trans o3
  have S4a := (kp4 S (xo o3 S3 A3 _ (Or.inl (Or.inr rfl)))).trans S3
  have A4a := (kp4 A (xo o3 S3 A3 _ (Or.inr rfl))).trans A3
  have OBm4 : OB (ex3 o S A) H4a [] := OB.nil
  have ALm4 : AL (ex3 o S A) H4a [] := AL.nil
  refine putf_ok X flX6_34 ftX6_8 (Or.inr ⟨by rw [hnm]; rfl, RX6, TX6, 14, rfl, rfl⟩) rfl rfl (dk rfl) o4a (Nat.le_of_ble_eq_true rfl) ?_
  have o4 : hup H4a o (8, ([.ref S, .ref A, .int 0, .int 0, .int 0, .ref u1, .ref u2, .ref u3, .null, .null, .null, .null, .null, .null] : List Value).set 8 (.ref u4)) o = some (8, [.ref S, .ref A, .int 0, .int 0, .int 0, .ref u1, .ref u2, .ref u3, .ref u4, .null, .null, .null, .null, .null]) := hup_self _ _ _
  have S4 : hup H4a o (8, ([.ref S, .ref A, .int 0, .int 0, .int 0, .ref u1, .ref u2, .ref u3, .null, .null, .null, .null, .null, .null] : List Value).set 8 (.ref u4)) S = some (103, filR [] 6) := by rw [hup_ne _ _ hoS.symm]; exact S4a
  have A4 : hup H4a o (8, ([.ref S, .ref A, .int 0, .int 0, .int 0, .ref u1, .ref u2, .ref u3, .null, .null, .null, .null, .null, .null] : List Value).set 8 (.ref u4)) A = some (104, filR [] 3) := by rw [hup_ne _ _ hoA.symm]; exact A4a
  have K4 := (K3.tr K4b).set (a := o) (Or.inl (Or.inl rfl)) (8, ([.ref S, .ref A, .int 0, .int 0, .int 0, .ref u1, .ref u2, .ref u3, .null, .null, .null, .null, .null, .null] : List Value).set 8 (.ref u4))
  have OBz4 := ((OBz3.kl K4b).app OBm4).set (a := o) (Or.inl (Or.inl rfl)) (8, ([.ref S, .ref A, .int 0, .int 0, .int 0, .ref u1, .ref u2, .ref u3, .null, .null, .null, .null, .null, .null] : List Value).set 8 (.ref u4))
  have ALz4 := ((ALz3.kl K4b).app ALm4).set (a := o) (Or.inl (Or.inl rfl)) (8, ([.ref S, .ref A, .int 0, .int 0, .int 0, .ref u1, .ref u2, .ref u3, .null, .null, .null, .null, .null, .null] : List Value).set 8 (.ref u4))
  generalize hup H4a o (8, ([.ref S, .ref A, .int 0, .int 0, .int 0, .ref u1, .ref u2, .ref u3, .null, .null, .null, .null, .null, .null] : List Value).set 8 (.ref u4)) = H4 at o4 S4 A4 K4 OBz4 ALz4
  refine fst1_ok X (dk rfl) rfl ?_
  refine new_ok X nc6_15 (dk rfl) (by first | exact Nat.le_of_ble_eq_true rfl | (show _ ≤ _; omega)) (by first | exact Nat.le_of_ble_eq_true rfl | (show _ ≤ _; omega)) (fun u5 hu5 hBu5 => ?_)
  refine fst1_ok X (dk rfl) rfl ?_
  refine callI_ok (av := []) (r := [.ref u5, .ref o]) X E (n0_init _ (hup_self _ _ _)) lkX0_init mlX6_37 lmX0_init rfl ⟨Nat.le_of_ble_eq_true rfl, Nat.le_of_ble_eq_true rfl⟩ ⟨Nat.le_of_ble_eq_true rfl, Nat.le_of_ble_eq_true rfl⟩ (Nat.le_of_ble_eq_true rfl) (dk rfl) ?_
  rintro v H5a ⟨rfl, ar5, t5, x5, y5, z5, w5, N5⟩
  have K5b := KL.nest (ex := (ex3 o S A)) (xo o4 S4 A4) hu5 N5
  have nu5 : ∀ a, H4 a ≠ none → a ≠ u5 := fun a z y => z (by rw [y]; exact hu5)
  have o5a := N5.1 o _ (nu5 o (xo o4 S4 A4 _ (Or.inl (Or.inl rfl)))) (by rw [hup_ne _ _ (nu5 o (xo o4 S4 A4 _ (Or.inl (Or.inl rfl))))]; exact o4)
  have S5a := N5.1 S _ (nu5 S (xo o4 S4 A4 _ (Or.inl (Or.inr rfl)))) (by rw [hup_ne _ _ (nu5 S (xo o4 S4 A4 _ (Or.inl (Or.inr rfl))))]; exact S4)
  have A5a := N5.1 A _ (nu5 A (xo o4 S4 A4 _ (Or.inr rfl))) (by rw [hup_ne _ _ (nu5 A (xo o4 S4 A4 _ (Or.inr rfl)))]; exact A4)
  have na5 : ¬ ex3 o S A ar5 := fun z => xo o4 S4 A4 _ z (by rw [hup_ne _ _ (fun y2 => by rw [y2, hup_self] at w5; cases w5)] at w5; exact w5)
  have ALm5 : AL (ex3 o S A) H5a [(u5, ar5, t5)] := AL.one z5 (nk o5a S5a A5a x5 (by decide) (by decide) (by decide)) na5 x5 y5
  have OBm5 : OB (ex3 o S A) H5a [] := OB.nil
  refine putf_ok X flX6_38 ftX6_9 (Or.inr ⟨by rw [hnm]; rfl, RX6, TX6, 14, rfl, rfl⟩) rfl rfl (dk rfl) o5a (Nat.le_of_ble_eq_true rfl) ?_
  have o5 : hup H5a o (8, ([.ref S, .ref A, .int 0, .int 0, .int 0, .ref u1, .ref u2, .ref u3, .ref u4, .null, .null, .null, .null, .null] : List Value).set 9 (.ref u5)) o = some (8, [.ref S, .ref A, .int 0, .int 0, .int 0, .ref u1, .ref u2, .ref u3, .ref u4, .ref u5, .null, .null, .null, .null]) := hup_self _ _ _
  have S5 : hup H5a o (8, ([.ref S, .ref A, .int 0, .int 0, .int 0, .ref u1, .ref u2, .ref u3, .ref u4, .null, .null, .null, .null, .null] : List Value).set 9 (.ref u5)) S = some (103, filR [] 6) := by rw [hup_ne _ _ hoS.symm]; exact S5a
  have A5 : hup H5a o (8, ([.ref S, .ref A, .int 0, .int 0, .int 0, .ref u1, .ref u2, .ref u3, .ref u4, .null, .null, .null, .null, .null] : List Value).set 9 (.ref u5)) A = some (104, filR [] 3) := by rw [hup_ne _ _ hoA.symm]; exact A5a
  have K5 := (K4.tr K5b).set (a := o) (Or.inl (Or.inl rfl)) (8, ([.ref S, .ref A, .int 0, .int 0, .int 0, .ref u1, .ref u2, .ref u3, .ref u4, .null, .null, .null, .null, .null] : List Value).set 9 (.ref u5))
  have OBz5 := ((OBz4.kl K5b).app OBm5).set (a := o) (Or.inl (Or.inl rfl)) (8, ([.ref S, .ref A, .int 0, .int 0, .int 0, .ref u1, .ref u2, .ref u3, .ref u4, .null, .null, .null, .null, .null] : List Value).set 9 (.ref u5))
  have ALz5 := ((ALz4.kl K5b).app ALm5).set (a := o) (Or.inl (Or.inl rfl)) (8, ([.ref S, .ref A, .int 0, .int 0, .int 0, .ref u1, .ref u2, .ref u3, .ref u4, .null, .null, .null, .null, .null] : List Value).set 9 (.ref u5))
  generalize hup H5a o (8, ([.ref S, .ref A, .int 0, .int 0, .int 0, .ref u1, .ref u2, .ref u3, .ref u4, .null, .null, .null, .null, .null] : List Value).set 9 (.ref u5)) = H5 at o5 S5 A5 K5 OBz5 ALz5
  refine fst1_ok X (dk rfl) rfl ?_
  refine new_ok X nc6_15 (dk rfl) (by first | exact Nat.le_of_ble_eq_true rfl | (show _ ≤ _; omega)) (by first | exact Nat.le_of_ble_eq_true rfl | (show _ ≤ _; omega)) (fun u6 hu6 hBu6 => ?_)
  refine fst1_ok X (dk rfl) rfl ?_
  refine callI_ok (av := []) (r := [.ref u6, .ref o]) X E (n0_init _ (hup_self _ _ _)) lkX0_init mlX6_37 lmX0_init rfl ⟨Nat.le_of_ble_eq_true rfl, Nat.le_of_ble_eq_true rfl⟩ ⟨Nat.le_of_ble_eq_true rfl, Nat.le_of_ble_eq_true rfl⟩ (Nat.le_of_ble_eq_true rfl) (dk rfl) ?_
  rintro v H6a ⟨rfl, ar6, t6, x6, y6, z6, w6, N6⟩
  have K6b := KL.nest (ex := (ex3 o S A)) (xo o5 S5 A5) hu6 N6
  have nu6 : ∀ a, H5 a ≠ none → a ≠ u6 := fun a z y => z (by rw [y]; exact hu6)
  have o6a := N6.1 o _ (nu6 o (xo o5 S5 A5 _ (Or.inl (Or.inl rfl)))) (by rw [hup_ne _ _ (nu6 o (xo o5 S5 A5 _ (Or.inl (Or.inl rfl))))]; exact o5)
  have S6a := N6.1 S _ (nu6 S (xo o5 S5 A5 _ (Or.inl (Or.inr rfl)))) (by rw [hup_ne _ _ (nu6 S (xo o5 S5 A5 _ (Or.inl (Or.inr rfl))))]; exact S5)
  have A6a := N6.1 A _ (nu6 A (xo o5 S5 A5 _ (Or.inr rfl))) (by rw [hup_ne _ _ (nu6 A (xo o5 S5 A5 _ (Or.inr rfl)))]; exact A5)
  have na6 : ¬ ex3 o S A ar6 := fun z => xo o5 S5 A5 _ z (by rw [hup_ne _ _ (fun y2 => by rw [y2, hup_self] at w6; cases w6)] at w6; exact w6)
  have ALm6 : AL (ex3 o S A) H6a [(u6, ar6, t6)] := AL.one z6 (nk o6a S6a A6a x6 (by decide) (by decide) (by decide)) na6 x6 y6
  have OBm6 : OB (ex3 o S A) H6a [] := OB.nil
  refine putf_ok X flX6_42 ftX6_10 (Or.inr ⟨by rw [hnm]; rfl, RX6, TX6, 14, rfl, rfl⟩) rfl rfl (dk rfl) o6a (Nat.le_of_ble_eq_true rfl) ?_
  have o6 : hup H6a o (8, ([.ref S, .ref A, .int 0, .int 0, .int 0, .ref u1, .ref u2, .ref u3, .ref u4, .ref u5, .null, .null, .null, .null] : List Value).set 10 (.ref u6)) o = some (8, [.ref S, .ref A, .int 0, .int 0, .int 0, .ref u1, .ref u2, .ref u3, .ref u4, .ref u5, .ref u6, .null, .null, .null]) := hup_self _ _ _
  have S6 : hup H6a o (8, ([.ref S, .ref A, .int 0, .int 0, .int 0, .ref u1, .ref u2, .ref u3, .ref u4, .ref u5, .null, .null, .null, .null] : List Value).set 10 (.ref u6)) S = some (103, filR [] 6) := by rw [hup_ne _ _ hoS.symm]; exact S6a
  have A6 : hup H6a o (8, ([.ref S, .ref A, .int 0, .int 0, .int 0, .ref u1, .ref u2, .ref u3, .ref u4, .ref u5, .null, .null, .null, .null] : List Value).set 10 (.ref u6)) A = some (104, filR [] 3) := by rw [hup_ne _ _ hoA.symm]; exact A6a
  have K6 := (K5.tr K6b).set (a := o) (Or.inl (Or.inl rfl)) (8, ([.ref S, .ref A, .int 0, .int 0, .int 0, .ref u1, .ref u2, .ref u3, .ref u4, .ref u5, .null, .null, .null, .null] : List Value).set 10 (.ref u6))
  have OBz6 := ((OBz5.kl K6b).app OBm6).set (a := o) (Or.inl (Or.inl rfl)) (8, ([.ref S, .ref A, .int 0, .int 0, .int 0, .ref u1, .ref u2, .ref u3, .ref u4, .ref u5, .null, .null, .null, .null] : List Value).set 10 (.ref u6))
  have ALz6 := ((ALz5.kl K6b).app ALm6).set (a := o) (Or.inl (Or.inl rfl)) (8, ([.ref S, .ref A, .int 0, .int 0, .int 0, .ref u1, .ref u2, .ref u3, .ref u4, .ref u5, .null, .null, .null, .null] : List Value).set 10 (.ref u6))
  generalize hup H6a o (8, ([.ref S, .ref A, .int 0, .int 0, .int 0, .ref u1, .ref u2, .ref u3, .ref u4, .ref u5, .null, .null, .null, .null] : List Value).set 10 (.ref u6)) = H6 at o6 S6 A6 K6 OBz6 ALz6
  refine fst1_ok X (dk rfl) rfl ?_
  refine new_ok X nc6_45 (dk rfl) (by first | exact Nat.le_of_ble_eq_true rfl | (show _ ≤ _; omega)) (by first | exact Nat.le_of_ble_eq_true rfl | (show _ ≤ _; omega)) (fun u7 hu7 hBu7 => ?_)
  refine fst1_ok X (dk rfl) rfl ?_
  refine callIN_ok (av := []) (r := [.ref u7, .ref o]) X E (n4_init _ (hup_self _ _ _)) lkX4_init mnX6_47 lmX4_init rfl ⟨Nat.le_of_ble_eq_true rfl, Nat.le_of_ble_eq_true rfl⟩ ⟨Nat.le_of_ble_eq_true rfl, Nat.le_of_ble_eq_true rfl⟩ (Nat.le_of_ble_eq_true rfl) (dk rfl) ?_
  rintro v H7a ⟨rfl, b7, c7, r7, p7, d7, e7, x7, y7, N7⟩
  have K7b := KL.nest (ex := (ex3 o S A)) (xo o6 S6 A6) hu7 N7
  have nu7 : ∀ a, H6 a ≠ none → a ≠ u7 := fun a z y => z (by rw [y]; exact hu7)
  have o7a := N7.1 o _ (nu7 o (xo o6 S6 A6 _ (Or.inl (Or.inl rfl)))) (by rw [hup_ne _ _ (nu7 o (xo o6 S6 A6 _ (Or.inl (Or.inl rfl))))]; exact o6)
  have S7a := N7.1 S _ (nu7 S (xo o6 S6 A6 _ (Or.inl (Or.inr rfl)))) (by rw [hup_ne _ _ (nu7 S (xo o6 S6 A6 _ (Or.inl (Or.inr rfl))))]; exact S6)
  have A7a := N7.1 A _ (nu7 A (xo o6 S6 A6 _ (Or.inr rfl))) (by rw [hup_ne _ _ (nu7 A (xo o6 S6 A6 _ (Or.inr rfl)))]; exact A6)
  have OBm7 : OB (ex3 o S A) H7a [(u7, (6, [.ref b7, .ref r7, .ref p7, .int 0, .int 0])), (p7, (4, [.ref d7, .ref e7, vI 0]))] := (OB.one (nk o7a S7a A7a x7 (by decide) (by decide) (by decide)) x7).app (OB.one (nk o7a S7a A7a y7 (by decide) (by decide) (by decide)) y7)
  have ALm7 : AL (ex3 o S A) H7a [] := AL.nil
  refine putf_ok X flX6_48 ftX6_11 (Or.inr ⟨by rw [hnm]; rfl, RX6, TX6, 14, rfl, rfl⟩) rfl rfl (dk rfl) o7a (Nat.le_of_ble_eq_true rfl) ?_
  have o7 : hup H7a o (8, ([.ref S, .ref A, .int 0, .int 0, .int 0, .ref u1, .ref u2, .ref u3, .ref u4, .ref u5, .ref u6, .null, .null, .null] : List Value).set 11 (.ref u7)) o = some (8, [.ref S, .ref A, .int 0, .int 0, .int 0, .ref u1, .ref u2, .ref u3, .ref u4, .ref u5, .ref u6, .ref u7, .null, .null]) := hup_self _ _ _
  have S7 : hup H7a o (8, ([.ref S, .ref A, .int 0, .int 0, .int 0, .ref u1, .ref u2, .ref u3, .ref u4, .ref u5, .ref u6, .null, .null, .null] : List Value).set 11 (.ref u7)) S = some (103, filR [] 6) := by rw [hup_ne _ _ hoS.symm]; exact S7a
  have A7 : hup H7a o (8, ([.ref S, .ref A, .int 0, .int 0, .int 0, .ref u1, .ref u2, .ref u3, .ref u4, .ref u5, .ref u6, .null, .null, .null] : List Value).set 11 (.ref u7)) A = some (104, filR [] 3) := by rw [hup_ne _ _ hoA.symm]; exact A7a
  have K7 := (K6.tr K7b).set (a := o) (Or.inl (Or.inl rfl)) (8, ([.ref S, .ref A, .int 0, .int 0, .int 0, .ref u1, .ref u2, .ref u3, .ref u4, .ref u5, .ref u6, .null, .null, .null] : List Value).set 11 (.ref u7))
  have OBz7 := ((OBz6.kl K7b).app OBm7).set (a := o) (Or.inl (Or.inl rfl)) (8, ([.ref S, .ref A, .int 0, .int 0, .int 0, .ref u1, .ref u2, .ref u3, .ref u4, .ref u5, .ref u6, .null, .null, .null] : List Value).set 11 (.ref u7))
  have ALz7 := ((ALz6.kl K7b).app ALm7).set (a := o) (Or.inl (Or.inl rfl)) (8, ([.ref S, .ref A, .int 0, .int 0, .int 0, .ref u1, .ref u2, .ref u3, .ref u4, .ref u5, .ref u6, .null, .null, .null] : List Value).set 11 (.ref u7))
  generalize hup H7a o (8, ([.ref S, .ref A, .int 0, .int 0, .int 0, .ref u1, .ref u2, .ref u3, .ref u4, .ref u5, .ref u6, .null, .null, .null] : List Value).set 11 (.ref u7)) = H7 at o7 S7 A7 K7 OBz7 ALz7
  refine fst1_ok X (dk rfl) rfl ?_
  refine new_ok X nc6_52 (dk rfl) (by first | exact Nat.le_of_ble_eq_true rfl | (show _ ≤ _; omega)) (by first | exact Nat.le_of_ble_eq_true rfl | (show _ ≤ _; omega)) (fun u8 hu8 hBu8 => ?_)
  refine fst1_ok X (dk rfl) rfl ?_
  refine callIN_ok (av := []) (r := [.ref u8, .ref o]) X E (n1_init _ (hup_self _ _ _)) lkX1_init mnX6_54 lmX1_init rfl ⟨Nat.le_of_ble_eq_true rfl, Nat.le_of_ble_eq_true rfl⟩ ⟨Nat.le_of_ble_eq_true rfl, Nat.le_of_ble_eq_true rfl⟩ (Nat.le_of_ble_eq_true rfl) (dk rfl) ?_
  rintro v H8a ⟨rfl, b8, c8, r8, s8, f8, p8, d8, e8, x8, y8, N8⟩
  have K8b := KL.nest (ex := (ex3 o S A)) (xo o7 S7 A7) hu8 N8
  have nu8 : ∀ a, H7 a ≠ none → a ≠ u8 := fun a z y => z (by rw [y]; exact hu8)
  have o8a := N8.1 o _ (nu8 o (xo o7 S7 A7 _ (Or.inl (Or.inl rfl)))) (by rw [hup_ne _ _ (nu8 o (xo o7 S7 A7 _ (Or.inl (Or.inl rfl))))]; exact o7)
  have S8a := N8.1 S _ (nu8 S (xo o7 S7 A7 _ (Or.inl (Or.inr rfl)))) (by rw [hup_ne _ _ (nu8 S (xo o7 S7 A7 _ (Or.inl (Or.inr rfl))))]; exact S7)
  have A8a := N8.1 A _ (nu8 A (xo o7 S7 A7 _ (Or.inr rfl))) (by rw [hup_ne _ _ (nu8 A (xo o7 S7 A7 _ (Or.inr rfl)))]; exact A7)
  have OBm8 : OB (ex3 o S A) H8a [(u8, (3, [.ref b8, .ref r8, .ref s8, .ref f8, .ref p8])), (p8, (4, [.ref d8, .ref e8, vI 0]))] := (OB.one (nk o8a S8a A8a x8 (by decide) (by decide) (by decide)) x8).app (OB.one (nk o8a S8a A8a y8 (by decide) (by decide) (by decide)) y8)
  have ALm8 : AL (ex3 o S A) H8a [] := AL.nil
  refine putf_ok X flX6_55 ftX6_12 (Or.inr ⟨by rw [hnm]; rfl, RX6, TX6, 14, rfl, rfl⟩) rfl rfl (dk rfl) o8a (Nat.le_of_ble_eq_true rfl) ?_
  have o8 : hup H8a o (8, ([.ref S, .ref A, .int 0, .int 0, .int 0, .ref u1, .ref u2, .ref u3, .ref u4, .ref u5, .ref u6, .ref u7, .null, .null] : List Value).set 12 (.ref u8)) o = some (8, [.ref S, .ref A, .int 0, .int 0, .int 0, .ref u1, .ref u2, .ref u3, .ref u4, .ref u5, .ref u6, .ref u7, .ref u8, .null]) := hup_self _ _ _
  have S8 : hup H8a o (8, ([.ref S, .ref A, .int 0, .int 0, .int 0, .ref u1, .ref u2, .ref u3, .ref u4, .ref u5, .ref u6, .ref u7, .null, .null] : List Value).set 12 (.ref u8)) S = some (103, filR [] 6) := by rw [hup_ne _ _ hoS.symm]; exact S8a
  have A8 : hup H8a o (8, ([.ref S, .ref A, .int 0, .int 0, .int 0, .ref u1, .ref u2, .ref u3, .ref u4, .ref u5, .ref u6, .ref u7, .null, .null] : List Value).set 12 (.ref u8)) A = some (104, filR [] 3) := by rw [hup_ne _ _ hoA.symm]; exact A8a
  have K8 := (K7.tr K8b).set (a := o) (Or.inl (Or.inl rfl)) (8, ([.ref S, .ref A, .int 0, .int 0, .int 0, .ref u1, .ref u2, .ref u3, .ref u4, .ref u5, .ref u6, .ref u7, .null, .null] : List Value).set 12 (.ref u8))
  have OBz8 := ((OBz7.kl K8b).app OBm8).set (a := o) (Or.inl (Or.inl rfl)) (8, ([.ref S, .ref A, .int 0, .int 0, .int 0, .ref u1, .ref u2, .ref u3, .ref u4, .ref u5, .ref u6, .ref u7, .null, .null] : List Value).set 12 (.ref u8))
  have ALz8 := ((ALz7.kl K8b).app ALm8).set (a := o) (Or.inl (Or.inl rfl)) (8, ([.ref S, .ref A, .int 0, .int 0, .int 0, .ref u1, .ref u2, .ref u3, .ref u4, .ref u5, .ref u6, .ref u7, .null, .null] : List Value).set 12 (.ref u8))
  generalize hup H8a o (8, ([.ref S, .ref A, .int 0, .int 0, .int 0, .ref u1, .ref u2, .ref u3, .ref u4, .ref u5, .ref u6, .ref u7, .null, .null] : List Value).set 12 (.ref u8)) = H8 at o8 S8 A8 K8 OBz8 ALz8
  refine fst1_ok X (dk rfl) rfl ?_
  refine new_ok X nc6_59 (dk rfl) (by first | exact Nat.le_of_ble_eq_true rfl | (show _ ≤ _; omega)) (by first | exact Nat.le_of_ble_eq_true rfl | (show _ ≤ _; omega)) (fun u9 hu9 hBu9 => ?_)
  refine fst1_ok X (dk rfl) rfl ?_
  refine callIN_ok (av := []) (r := [.ref u9, .ref o]) X E (n3_init _ (hup_self _ _ _)) lkX3_init mnX6_61 lmX3_init rfl ⟨Nat.le_of_ble_eq_true rfl, Nat.le_of_ble_eq_true rfl⟩ ⟨Nat.le_of_ble_eq_true rfl, Nat.le_of_ble_eq_true rfl⟩ (Nat.le_of_ble_eq_true rfl) (dk rfl) ?_
  rintro v H9a ⟨rfl, p9, d9, e9, x9, y9, w9, N9⟩
  have K9b := KL.nest (ex := (ex3 o S A)) (xo o8 S8 A8) hu9 N9
  have nu9 : ∀ a, H8 a ≠ none → a ≠ u9 := fun a z y => z (by rw [y]; exact hu9)
  have o9a := N9.1 o _ (nu9 o (xo o8 S8 A8 _ (Or.inl (Or.inl rfl)))) (by rw [hup_ne _ _ (nu9 o (xo o8 S8 A8 _ (Or.inl (Or.inl rfl))))]; exact o8)
  have S9a := N9.1 S _ (nu9 S (xo o8 S8 A8 _ (Or.inl (Or.inr rfl)))) (by rw [hup_ne _ _ (nu9 S (xo o8 S8 A8 _ (Or.inl (Or.inr rfl))))]; exact S8)
  have A9a := N9.1 A _ (nu9 A (xo o8 S8 A8 _ (Or.inr rfl))) (by rw [hup_ne _ _ (nu9 A (xo o8 S8 A8 _ (Or.inr rfl)))]; exact A8)
  have OBm9 : OB (ex3 o S A) H9a [(u9, (5, [.ref p9])), (p9, (4, [.ref d9, .ref e9, vI 0]))] := (OB.one (nk o9a S9a A9a x9 (by decide) (by decide) (by decide)) x9).app (OB.one (nk o9a S9a A9a y9 (by decide) (by decide) (by decide)) y9)
  have ALm9 : AL (ex3 o S A) H9a [] := AL.nil
  refine putf_ok X flX6_62 ftX6_13 (Or.inr ⟨by rw [hnm]; rfl, RX6, TX6, 14, rfl, rfl⟩) rfl rfl (dk rfl) o9a (Nat.le_of_ble_eq_true rfl) ?_
  have o9 : hup H9a o (8, ([.ref S, .ref A, .int 0, .int 0, .int 0, .ref u1, .ref u2, .ref u3, .ref u4, .ref u5, .ref u6, .ref u7, .ref u8, .null] : List Value).set 13 (.ref u9)) o = some (8, [.ref S, .ref A, .int 0, .int 0, .int 0, .ref u1, .ref u2, .ref u3, .ref u4, .ref u5, .ref u6, .ref u7, .ref u8, .ref u9]) := hup_self _ _ _
  have S9 : hup H9a o (8, ([.ref S, .ref A, .int 0, .int 0, .int 0, .ref u1, .ref u2, .ref u3, .ref u4, .ref u5, .ref u6, .ref u7, .ref u8, .null] : List Value).set 13 (.ref u9)) S = some (103, filR [] 6) := by rw [hup_ne _ _ hoS.symm]; exact S9a
  have A9 : hup H9a o (8, ([.ref S, .ref A, .int 0, .int 0, .int 0, .ref u1, .ref u2, .ref u3, .ref u4, .ref u5, .ref u6, .ref u7, .ref u8, .null] : List Value).set 13 (.ref u9)) A = some (104, filR [] 3) := by rw [hup_ne _ _ hoA.symm]; exact A9a
  have K9 := (K8.tr K9b).set (a := o) (Or.inl (Or.inl rfl)) (8, ([.ref S, .ref A, .int 0, .int 0, .int 0, .ref u1, .ref u2, .ref u3, .ref u4, .ref u5, .ref u6, .ref u7, .ref u8, .null] : List Value).set 13 (.ref u9))
  have OBz9 := ((OBz8.kl K9b).app OBm9).set (a := o) (Or.inl (Or.inl rfl)) (8, ([.ref S, .ref A, .int 0, .int 0, .int 0, .ref u1, .ref u2, .ref u3, .ref u4, .ref u5, .ref u6, .ref u7, .ref u8, .null] : List Value).set 13 (.ref u9))
  have ALz9 := ((ALz8.kl K9b).app ALm9).set (a := o) (Or.inl (Or.inl rfl)) (8, ([.ref S, .ref A, .int 0, .int 0, .int 0, .ref u1, .ref u2, .ref u3, .ref u4, .ref u5, .ref u6, .ref u7, .ref u8, .null] : List Value).set 13 (.ref u9))
  generalize hup H9a o (8, ([.ref S, .ref A, .int 0, .int 0, .int 0, .ref u1, .ref u2, .ref u3, .ref u4, .ref u5, .ref u6, .ref u7, .ref u8, .null] : List Value).set 13 (.ref u9)) = H9 at o9 S9 A9 K9 OBz9 ALz9
  refine WS.widen (k' := 66) (n' := 1825) (Nat.le_of_ble_eq_true rfl) (Nat.le_of_ble_eq_true rfl) ?_
  iterate 2 refine fst1_ok X (dk rfl) rfl ?_
  have hex : ∀ a, a = o → ex3 o S A a := fun a z => Or.inl (Or.inl z)
  have loopA : ∀ (d i : Nat), i + d = 3 → ∀ (hh : AH) (tS : List T4) (N : List (Nat × Nat × List T4)) (l : List (Nat × Value)), lsel l [1, 0] = [(1, vI i), (0, .ref o)] → Tn8 6 tS → N.length = i → hh o = some (8, [.ref S, .ref A, .int 0, .int 0, .int 0, .ref u1, .ref u2, .ref u3, .ref u4, .ref u5, .ref u6, .ref u7, .ref u8, .ref u9]) → hh S = some (103, filR (tS.map (fun t => t.1)) 6) → hh A = some (104, filR (N.map (fun x => x.1)) 3) → OB (ex3 o S A) hh ((((((((([] ++ []) ++ []) ++ []) ++ []) ++ []) ++ []) ++ [(u7, (6, [.ref b7, .ref r7, .ref p7, .int 0, .int 0])), (p7, (4, [.ref d7, .ref e7, vI 0]))]) ++ [(u8, (3, [.ref b8, .ref r8, .ref s8, .ref f8, .ref p8])), (p8, (4, [.ref d8, .ref e8, vI 0]))]) ++ [(u9, (5, [.ref p9])), (p9, (4, [.ref d9, .ref e9, vI 0]))]) → AL (ex3 o S A) hh (((((((((([] ++ []) ++ []) ++ []) ++ []) ++ [(u5, ar5, t5)]) ++ [(u6, ar6, t6)]) ++ []) ++ []) ++ []) ++ N) → KL (ex3 o S A) h hh ((((((((((([] ++ [(u1, q1, 16, ([], false))]) ++ [(u2, q2, 16, ([], false))]) ++ [(u3, q3, 256, ([], false))]) ++ [(u4, q4, 256, ([], false))]) ++ t5) ++ t6) ++ [(b7, c7, 32, ([], false))]) ++ [(b8, c8, 32, ([], false))]) ++ []) ++ tS) ++ N.flatMap (fun x => x.2.2)) ((((((((([] ++ []) ++ []) ++ []) ++ []) ++ []) ++ []) ++ [(r7, 8), (d7, 128), (e7, 128)]) ++ [(r8, 32), (s8, 32), (f8, 8), (d8, 128), (e8, 128)]) ++ [(d9, 128), (e9, 128)]) → WR p la e (rmD 5 140 2500) s m args below meth c D cA B0 2 (fun v h' => v = none ∧ ∃ (S A u1 u2 u3 u4 u5 u6 u7 u8 u9 q1 q2 q3 q4 ar5 ar6 b7 c7 r7 p7 d7 e7 b8 c8 r8 s8 f8 p8 d8 e8 p9 d9 e9 : Nat) (t5 t6 tS : List T4) (N : List (Nat × Nat × List T4)), h' o = some (8, [.ref S, .ref A, .int 0, .int 0, .int 0, .ref u1, .ref u2, .ref u3, .ref u4, .ref u5, .ref u6, .ref u7, .ref u8, .ref u9]) ∧ h' S = some (103, (tS.map (fun t => t.1)).map Value.ref) ∧ h' A = some (104, (N.map (fun x => x.1)).map Value.ref) ∧ Tn8 6 tS ∧ N.length = 3 ∧ OB (fun a => a = o) h' ((((((((([] ++ []) ++ []) ++ []) ++ []) ++ []) ++ []) ++ [(u7, (6, [.ref b7, .ref r7, .ref p7, .int 0, .int 0])), (p7, (4, [.ref d7, .ref e7, vI 0]))]) ++ [(u8, (3, [.ref b8, .ref r8, .ref s8, .ref f8, .ref p8])), (p8, (4, [.ref d8, .ref e8, vI 0]))]) ++ [(u9, (5, [.ref p9])), (p9, (4, [.ref d9, .ref e9, vI 0]))]) ∧ AL (fun a => a = o) h' (((((((((([] ++ []) ++ []) ++ []) ++ []) ++ [(u5, ar5, t5)]) ++ [(u6, ar6, t6)]) ++ []) ++ []) ++ []) ++ N) ∧ KL (fun a => a = o) h h' ((((((((((([] ++ [(u1, q1, 16, ([], false))]) ++ [(u2, q2, 16, ([], false))]) ++ [(u3, q3, 256, ([], false))]) ++ [(u4, q4, 256, ([], false))]) ++ t5) ++ t6) ++ [(b7, c7, 32, ([], false))]) ++ [(b8, c8, 32, ([], false))]) ++ []) ++ tS) ++ N.flatMap (fun x => x.2.2)) ((((((((([] ++ []) ++ []) ++ []) ++ []) ++ []) ++ []) ++ [(r7, 8), (d7, 128), (e7, 128)]) ++ [(r8, 32), (s8, 32), (f8, 8), (d8, 128), (e8, 128)]) ++ [(d9, 128), (e9, 128)])) 171 l [] hh (78 + 18 * i) (1939 + 161 * i) := by
    intro d
    induction d with
    | zero =>
      intro i hi hh tS N l hl hT hN oo SS AA OO LL K
      have hi2 : i = 3 := by omega
      subst hi2
      have hSl : (tS.map (fun t => t.1)).length = 6 := by rw [List.length_map]; exact hT.1
      have hNl : (N.map (fun x => x.1)).length = 3 := by rw [List.length_map]; exact hN
      refine WS.sel [1, 0] hl ?_
      iterate 2 refine fst1_ok X (dk rfl) rfl ?_
      refine br_ok X (dk rfl) rfl (show ((173 : Nat) : Int) + 22 = ((195 : Nat) : Int) from rfl) (fun _ => ?_) (fun c1 => absurd (by decide) c1)
      exact retv_ok X hr hlk (dk rfl) ⟨rfl, ⟨S, A, u1, u2, u3, u4, u5, u6, u7, u8, u9, q1, q2, q3, q4, ar5, ar6, b7, c7, r7, p7, d7, e7, b8, c8, r8, s8, f8, p8, d8, e8, p9, d9, e9, t5, t6, tS, N, oo, by rw [SS, ← hSl, filR_end], by rw [AA, ← hNl, filR_end], hT, hN, fun x hx => ⟨fun z => (OO x hx).1 (hex _ z), (OO x hx).2⟩, fun x hx => (fun w => ⟨w.1, fun z => w.2.1 (hex _ z), fun z => w.2.2.1 (hex _ z), w.2.2.2⟩) (LL x hx), (K.drop hA0).drop hS⟩⟩ (Nat.le_of_ble_eq_true rfl) (Nat.le_of_ble_eq_true rfl)
    | succ d ih =>
      intro i hi hh tS N l hl hT hN oo SS AA OO LL K
      have hNl : (N.map (fun x => x.1)).length = i := by rw [List.length_map]; exact hN
      have f2 : Value.int (nI i + Int32.ofInt 1) = vI (i + 1) := congrArg Value.int (by rw [nI_1', nI_add])
      refine WS.sel [1, 0] hl ?_
      iterate 2 refine fst1_ok X (dk rfl) rfl ?_
      refine br_ok X (dk rfl) rfl (show ((173 : Nat) : Int) + 22 = ((195 : Nat) : Int) from rfl) (fun c1 => absurd c1 (nI_ge (a := i) (b := 3) (by omega) (by omega))) (fun _ => ?_)
      refine fst1_ok X (dk rfl) rfl ?_
      refine getf_ok X flX6_17 (dk rfl) oo rfl ?_
      refine fst1_ok X (dk rfl) rfl ?_
      refine new_ok X nc6_15 (dk rfl) (by show 78 + 18 * i + 1 ≤ 140; omega) (by show 1939 + 161 * i + 1 ≤ 2500; omega) (fun u hu hBu => ?_)
      refine fst1_ok X (dk rfl) rfl ?_
      refine callI_ok (av := []) (r := [.ref u, vI i, .ref A]) X E (n0_init _ (hup_self _ _ _)) lkX0_init mlX6_37 lmX0_init rfl ⟨Nat.le_of_ble_eq_true rfl, Nat.le_of_ble_eq_true rfl⟩ ⟨by show 78 + 18 * i + 1 + 17 ≤ 140; omega, by show 1939 + 161 * i + 1 + 160 ≤ 2500; omega⟩ (Nat.le_of_ble_eq_true rfl) (dk rfl) ?_
      rintro v h2 ⟨rfl, ar, tt, x1, y1, z1, w1, N1⟩
      have K2 := KL.nest (ex := (ex3 o S A)) (xo oo SS AA) hu N1
      have nu : ∀ a, hh a ≠ none → a ≠ u := fun a z y => z (by rw [y]; exact hu)
      have oo2 := N1.1 o _ (nu o (xo oo SS AA _ (Or.inl (Or.inl rfl)))) (by rw [hup_ne _ _ (nu o (xo oo SS AA _ (Or.inl (Or.inl rfl))))]; exact oo)
      have SS2 := N1.1 S _ (nu S (xo oo SS AA _ (Or.inl (Or.inr rfl)))) (by rw [hup_ne _ _ (nu S (xo oo SS AA _ (Or.inl (Or.inr rfl))))]; exact SS)
      have AA2 := N1.1 A _ (nu A (xo oo SS AA _ (Or.inr rfl))) (by rw [hup_ne _ _ (nu A (xo oo SS AA _ (Or.inr rfl)))]; exact AA)
      have nar : ¬ ex3 o S A ar := fun z => xo oo SS AA _ z (by rw [hup_ne _ _ (fun y2 => by rw [y2, hup_self] at w1; cases w1)] at w1; exact w1)
      have LL2 := (LL.kl K2).app (AL.one z1 (nk oo2 SS2 AA2 x1 (by decide) (by decide) (by decide)) nar x1 y1)
      have OO2 := OO.kl K2
      have hln : (filR (N.map (fun x => x.1)) 3).length = 3 := filR_len (by omega)
      refine WS.widen (k' := 78 + 18 * (i + 1)) (n' := 1939 + 161 * (i + 1)) (by show 78 + 18 * i + 1 + 17 ≤ 78 + 18 * (i + 1); omega) (by show 1939 + 161 * i + 1 + 160 ≤ 1939 + 161 * (i + 1); omega) ?_
      refine ast_ok X (Or.inr (Or.inr (Or.inr (Or.inl ⟨rfl, rfl, u, _, rfl, x1⟩)))) (dk rfl) AA2 ⟨nI_pos (by omega), by rw [nI_clamp (by omega), hln]; omega⟩ ?_
      rw [nI_clamp (n := i) (by omega), show (filR (N.map (fun x => x.1)) 3).set i (.ref u) = filR (N.map (fun x => x.1) ++ [u]) 3 by rw [← hNl]; exact filR_set (by omega)]
      have K3 := (K.tr K2).set (a := A) (Or.inr rfl) (104, filR (N.map (fun x => x.1) ++ [u]) 3)
      have LL3 := LL2.set (a := A) (Or.inr rfl) (104, filR (N.map (fun x => x.1) ++ [u]) 3)
      have OO3 := OO2.set (a := A) (Or.inr rfl) (104, filR (N.map (fun x => x.1) ++ [u]) 3)
      have oo3 : hup h2 A (104, filR (N.map (fun x => x.1) ++ [u]) 3) o = some (8, [.ref S, .ref A, .int 0, .int 0, .int 0, .ref u1, .ref u2, .ref u3, .ref u4, .ref u5, .ref u6, .ref u7, .ref u8, .ref u9]) := by rw [hup_ne _ _ hoA]; exact oo2
      have SS3 : hup h2 A (104, filR (N.map (fun x => x.1) ++ [u]) 3) S = some (103, filR (tS.map (fun t => t.1)) 6) := by rw [hup_ne _ _ hSA]; exact SS2
      have AA3 : hup h2 A (104, filR (N.map (fun x => x.1) ++ [u]) 3) A = some (104, filR (N.map (fun x => x.1) ++ [u]) 3) := hup_self _ _ _
      generalize hup h2 A (104, filR (N.map (fun x => x.1) ++ [u]) 3) = h3 at K3 LL3 OO3 oo3 SS3 AA3
      refine fst1_ok X (dk rfl) rfl ?_
      refine br_ok X (dk rfl) rfl (show ((192 : Nat) : Int) + (-21) = ((171 : Nat) : Int) from rfl) (fun _ => ?_) (fun q => absurd trivial q)
      refine WS.sel (l' := [(1, vI (i + 1)), (0, .ref o)]) [1, 0] (by rw [← f2]; rfl) ?_
      refine ih (i + 1) (by omega) h3 tS (N ++ [(u, ar, tt)]) _ rfl hT (by rw [List.length_append, hN]; rfl) oo3 SS3 (by rw [List.map_append]; exact AA3) OO3 (by rw [← List.append_assoc]; exact LL3) ?_
      rw [List.flatMap_append, ← List.append_assoc]
      simpa using K3
  have loopS : ∀ (d i : Nat), i + d = 6 → ∀ (hh : AH) (tS : List T4) (l : List (Nat × Value)), lsel l [1, 0] = [(1, vI i), (0, .ref o)] → Tn8 i tS → hh o = some (8, [.ref S, .ref A, .int 0, .int 0, .int 0, .ref u1, .ref u2, .ref u3, .ref u4, .ref u5, .ref u6, .ref u7, .ref u8, .ref u9]) → hh S = some (103, filR (tS.map (fun t => t.1)) 6) → hh A = some (104, filR [] 3) → OB (ex3 o S A) hh ((((((((([] ++ []) ++ []) ++ []) ++ []) ++ []) ++ []) ++ [(u7, (6, [.ref b7, .ref r7, .ref p7, .int 0, .int 0])), (p7, (4, [.ref d7, .ref e7, vI 0]))]) ++ [(u8, (3, [.ref b8, .ref r8, .ref s8, .ref f8, .ref p8])), (p8, (4, [.ref d8, .ref e8, vI 0]))]) ++ [(u9, (5, [.ref p9])), (p9, (4, [.ref d9, .ref e9, vI 0]))]) → AL (ex3 o S A) hh ((((((((([] ++ []) ++ []) ++ []) ++ []) ++ [(u5, ar5, t5)]) ++ [(u6, ar6, t6)]) ++ []) ++ []) ++ []) → KL (ex3 o S A) h hh (((((((((([] ++ [(u1, q1, 16, ([], false))]) ++ [(u2, q2, 16, ([], false))]) ++ [(u3, q3, 256, ([], false))]) ++ [(u4, q4, 256, ([], false))]) ++ t5) ++ t6) ++ [(b7, c7, 32, ([], false))]) ++ [(b8, c8, 32, ([], false))]) ++ []) ++ tS) ((((((((([] ++ []) ++ []) ++ []) ++ []) ++ []) ++ []) ++ [(r7, 8), (d7, 128), (e7, 128)]) ++ [(r8, 32), (s8, 32), (f8, 8), (d8, 128), (e8, 128)]) ++ [(d9, 128), (e9, 128)]) → WR p la e (rmD 5 140 2500) s m args below meth c D cA B0 2 (fun v h' => v = none ∧ ∃ (S A u1 u2 u3 u4 u5 u6 u7 u8 u9 q1 q2 q3 q4 ar5 ar6 b7 c7 r7 p7 d7 e7 b8 c8 r8 s8 f8 p8 d8 e8 p9 d9 e9 : Nat) (t5 t6 tS : List T4) (N : List (Nat × Nat × List T4)), h' o = some (8, [.ref S, .ref A, .int 0, .int 0, .int 0, .ref u1, .ref u2, .ref u3, .ref u4, .ref u5, .ref u6, .ref u7, .ref u8, .ref u9]) ∧ h' S = some (103, (tS.map (fun t => t.1)).map Value.ref) ∧ h' A = some (104, (N.map (fun x => x.1)).map Value.ref) ∧ Tn8 6 tS ∧ N.length = 3 ∧ OB (fun a => a = o) h' ((((((((([] ++ []) ++ []) ++ []) ++ []) ++ []) ++ []) ++ [(u7, (6, [.ref b7, .ref r7, .ref p7, .int 0, .int 0])), (p7, (4, [.ref d7, .ref e7, vI 0]))]) ++ [(u8, (3, [.ref b8, .ref r8, .ref s8, .ref f8, .ref p8])), (p8, (4, [.ref d8, .ref e8, vI 0]))]) ++ [(u9, (5, [.ref p9])), (p9, (4, [.ref d9, .ref e9, vI 0]))]) ∧ AL (fun a => a = o) h' (((((((((([] ++ []) ++ []) ++ []) ++ []) ++ [(u5, ar5, t5)]) ++ [(u6, ar6, t6)]) ++ []) ++ []) ++ []) ++ N) ∧ KL (fun a => a = o) h h' ((((((((((([] ++ [(u1, q1, 16, ([], false))]) ++ [(u2, q2, 16, ([], false))]) ++ [(u3, q3, 256, ([], false))]) ++ [(u4, q4, 256, ([], false))]) ++ t5) ++ t6) ++ [(b7, c7, 32, ([], false))]) ++ [(b8, c8, 32, ([], false))]) ++ []) ++ tS) ++ N.flatMap (fun x => x.2.2)) ((((((((([] ++ []) ++ []) ++ []) ++ []) ++ []) ++ []) ++ [(r7, 8), (d7, 128), (e7, 128)]) ++ [(r8, 32), (s8, 32), (f8, 8), (d8, 128), (e8, 128)]) ++ [(d9, 128), (e9, 128)])) 132 l [] hh (66 + 2 * i) (1825 + 19 * i) := by
    intro d
    induction d with
    | zero =>
      intro i hi hh tS l hl hT oo SS AA OO LL K
      have hi2 : i = 6 := by omega
      subst hi2
      refine WS.sel [1, 0] hl ?_
      iterate 2 refine fst1_ok X (dk rfl) rfl ?_
      refine br_ok X (dk rfl) rfl (show ((135 : Nat) : Int) + 34 = ((169 : Nat) : Int) from rfl) (fun _ => ?_) (fun c1 => absurd (by decide) c1)
      iterate 2 refine fst1_ok X (dk rfl) rfl ?_
      exact loopA 3 0 rfl hh tS [] _ rfl hT rfl oo SS AA OO (by rw [List.append_nil]; exact LL) (by rw [List.flatMap_nil, List.append_nil]; exact K)
    | succ d ih =>
      intro i hi hh tS l hl hT oo SS AA OO LL K
      have hSl : (tS.map (fun t => t.1)).length = i := by rw [List.length_map]; exact hT.1
      have f2 : Value.int (nI i + Int32.ofInt 1) = vI (i + 1) := congrArg Value.int (by rw [nI_1', nI_add])
      refine WS.sel [1, 0] hl ?_
      iterate 2 refine fst1_ok X (dk rfl) rfl ?_
      refine br_ok X (dk rfl) rfl (show ((135 : Nat) : Int) + 34 = ((169 : Nat) : Int) from rfl) (fun c1 => absurd c1 (nI_ge (a := i) (b := 6) (by omega) (by omega))) (fun _ => ?_)
      refine fst1_ok X (dk rfl) rfl ?_
      refine getf_ok X flX6_11 (dk rfl) oo rfl ?_
      refine fst1_ok X (dk rfl) rfl ?_
      refine new_ok X nc6_9 (dk rfl) (by show 66 + 2 * i + 1 ≤ 140; omega) (by show 1825 + 19 * i + 3 ≤ 2500; omega) (fun u hu hBu => ?_)
      iterate 2 refine fst1_ok X (dk rfl) rfl ?_
      rw [show (Int8.ofInt 16).toInt32 = nI 16 by decide +kernel]
      refine callI_ok (av := [.int (nI 16)]) (r := [.ref u, vI i, .ref S]) X E (n5_init _ (L := 16) (by omega) (hup_self _ _ _)) lkX5_init mlX6_21 lmX5_init rfl ⟨Nat.le_of_ble_eq_true rfl, Nat.le_of_ble_eq_true rfl⟩ ⟨by show 66 + 2 * i + 1 + 1 ≤ 140; omega, by show 1825 + 19 * i + 3 + 16 ≤ 2500; omega⟩ (Nat.le_of_ble_eq_true rfl) (dk rfl) ?_
      rintro v h2 ⟨rfl, w2, hw2, e2⟩
      have K2 := KL.term (ex := (ex3 o S A)) (L := 16) (xo oo SS AA) hu hw2
      rw [← e2] at K2
      have nu : ∀ a, hh a ≠ none → a ≠ u := fun a z y => z (by rw [y]; exact hu)
      have nw : ∀ a, hh a ≠ none → a ≠ w2 := fun a z y => z (by rw [hup_ne _ _ (fun y2 => by rw [y2, hup_self] at hw2; cases hw2)] at hw2; rw [y]; exact hw2)
      have kp2 : ∀ a, hh a ≠ none → h2 a = hh a := fun a z => by rw [e2, hup_ne _ _ (nu a z), hup_ne _ _ (nw a z), hup_ne _ _ (nu a z)]
      have no := xo oo SS AA o (Or.inl (Or.inl rfl))
      have nS := xo oo SS AA S (Or.inl (Or.inr rfl))
      have nA := xo oo SS AA A (Or.inr rfl)
      have oo2 := (kp2 o no).trans oo
      have SS2 := (kp2 S nS).trans SS
      have AA2 := (kp2 A nA).trans AA
      have T2 : TmX h2 u w2 16 ([], false) := (K2.2.2.2.2.2.1 _ List.mem_cons_self).2.2.2.2
      have hln : (filR (tS.map (fun t => t.1)) 6).length = 6 := filR_len (by omega)
      refine WS.widen (k' := 66 + 2 * (i + 1)) (n' := 1825 + 19 * (i + 1)) (by show 66 + 2 * i + 1 + 1 ≤ 66 + 2 * (i + 1); omega) (by show 1825 + 19 * i + 3 + 16 ≤ 1825 + 19 * (i + 1); omega) ?_
      refine ast_ok X (Or.inr (Or.inr (Or.inl ⟨rfl, rfl, u, _, rfl, T2.2.1⟩))) (dk rfl) SS2 ⟨nI_pos (by omega), by rw [nI_clamp (by omega), hln]; omega⟩ ?_
      rw [nI_clamp (n := i) (by omega), show (filR (tS.map (fun t => t.1)) 6).set i (.ref u) = filR (tS.map (fun t => t.1) ++ [u]) 6 by rw [← hSl]; exact filR_set (by omega)]
      have K3 := K2.set (a := S) (Or.inl (Or.inr rfl)) (103, filR (tS.map (fun t => t.1) ++ [u]) 6)
      have T3 : TmX (hup h2 S (103, filR (tS.map (fun t => t.1) ++ [u]) 6)) u w2 16 ([], false) := T2.kp (fun a cc ha hc => by rw [hup_ne _ _ (by rcases ha with rfl | rfl; exact (nu S nS).symm; exact (nw S nS).symm)]; exact hc)
      have OOb : OB (ex3 o S A) hh ((((((((([] ++ []) ++ []) ++ []) ++ []) ++ []) ++ []) ++ [(u7, (6, [.ref b7, .ref r7, .ref p7, .int 0, .int 0])), (p7, (4, [.ref d7, .ref e7, vI 0]))]) ++ [(u8, (3, [.ref b8, .ref r8, .ref s8, .ref f8, .ref p8])), (p8, (4, [.ref d8, .ref e8, vI 0]))]) ++ [(u9, (5, [.ref p9])), (p9, (4, [.ref d9, .ref e9, vI 0]))]) := OO
      have oo3 : hup h2 S (103, filR (tS.map (fun t => t.1) ++ [u]) 6) o = some (8, [.ref S, .ref A, .int 0, .int 0, .int 0, .ref u1, .ref u2, .ref u3, .ref u4, .ref u5, .ref u6, .ref u7, .ref u8, .ref u9]) := by rw [hup_ne _ _ hoS]; exact oo2
      have SS3 : hup h2 S (103, filR (tS.map (fun t => t.1) ++ [u]) 6) S = some (103, filR (tS.map (fun t => t.1) ++ [u]) 6) := hup_self _ _ _
      have AA3 : hup h2 S (103, filR (tS.map (fun t => t.1) ++ [u]) 6) A = some (104, filR [] 3) := by rw [hup_ne _ _ hSA.symm]; exact AA2
      generalize hup h2 S (103, filR (tS.map (fun t => t.1) ++ [u]) 6) = h3 at K3 T3 oo3 SS3 AA3
      refine fst1_ok X (dk rfl) rfl ?_
      refine getf_ok X flX6_11 (dk rfl) oo3 rfl ?_
      refine fst1_ok X (dk rfl) rfl ?_
      refine ald_ok X (Or.inr (Or.inr ⟨rfl, by decide, by decide⟩)) (dk rfl) SS3 (inA_nI (v := .ref u) (by omega) (by rw [← hSl]; exact filR_at _ u 6)) ?_
      refine fst1_ok X (dk rfl) rfl ?_
      refine callV_ok (ci := 7) (T := TX5) (N := 3) (av := [vI i]) (r := []) X E (n5_becomeName h3 T3 (by decide) (by decide) i) lkX5_becomeName mlX6_66 lmX5_becomeName lpX5_becomeName ⟨Nat.le_of_ble_eq_true rfl, Nat.le_of_ble_eq_true rfl⟩ ⟨by show 66 + 2 * (i + 1) ≤ 140; omega, by show 1825 + 19 * (i + 1) ≤ 2500; omega⟩ rfl T3.2.1 (Nat.le_of_ble_eq_true rfl) (dk rfl) ?_
      rintro v h4 ⟨rfl, T4', f4⟩
      have K4b := K3.bn T4' f4
      have K4 := K.tr K4b
      refine fst1_ok X (dk rfl) rfl ?_
      refine br_ok X (dk rfl) rfl (show ((166 : Nat) : Int) + (-34) = ((132 : Nat) : Int) from rfl) (fun _ => ?_) (fun q => absurd trivial q)
      refine WS.sel (l' := [(1, vI (i + 1)), (0, .ref o)]) [1, 0] (by rw [← f2]; rfl) ?_
      refine WS.widen (k' := 66 + 2 * (i + 1)) (n' := 1825 + 19 * (i + 1)) (Nat.le_refl _) (Nat.le_refl _) ?_
      refine ih (i + 1) (by omega) h4 (tS ++ [(u, w2, 16, ([nI i], false))]) _ rfl (hT.add u w2) (by rw [f4 o (nu o no) (nw o no)]; exact oo3) (by rw [f4 S (nu S nS) (nw S nS), List.map_append]; exact SS3) (by rw [f4 A (nu A nA) (nw A nA)]; exact AA3) (OOb.kl K4b) (LL.kl K4b) ?_
      rw [← List.append_assoc]
      simpa using K4
  exact loopS 6 0 rfl H9 [] _ rfl ⟨rfl, fun n hn => absurd hn (Nat.not_lt_zero n)⟩ o9 S9 A9 OBz9 ALz9 (by rw [List.append_nil]; exact K9)
end F03
end Uf03new3
