/-! alike of the reference, exactly (printed by wip/p20/genE4.py) -/
theorem exMin {A : Nat → Prop} {f : Nat → Nat} : ∀ (n q : Nat), f q ≤ n → A q → ∃ q', A q' ∧ ∀ z, A z → f q' ≤ f z := by
  intro n
  induction n with
  | zero => intro q h hq; exact ⟨q, hq, fun z _ => by omega⟩
  | succ n ih =>
    intro q h hq
    by_cases c : ∃ z, A z ∧ f z < f q
    · obtain ⟨z, h1, h2⟩ := c
      exact ih z (by omega) h1
    · refine ⟨q, hq, fun z hz => ?_⟩
      rcases Nat.lt_or_ge (f z) (f q) with d | d
      · exact absurd ⟨z, hz, d⟩ c
      · exact d
theorem SKP.ex {X : List Nat} {n1 : Nat} (hX : BX X) {k : Nat → Nat} (G : GdK X n1 k) : ∃ S, SKP X k S := by
  have one : ∀ x, ∃ oo : Option Nat, (∀ q, oo = some q → x < 8 ∧ q < X.length ∧ ∃ u, u < X.length ∧ gl X u = x ∧ k u = k q ∧ (10 ≤ gl X q ∨ (gl X q < x ∧ ∀ z, z < X.length → k z = k q → gl X q ≤ gl X z ∧ gl X z < 10))) ∧ (oo = none → ∀ u, u < X.length → gl X u = x → gl X u < 10 → ∀ z, z < X.length → k z = k u → gl X u ≤ gl X z ∧ gl X z < 10) := fun x => by
    by_cases c : ∃ u, u < X.length ∧ gl X u = x ∧ gl X u < 10
    · obtain ⟨u, hu, hx, h10⟩ := c
      have h8 := gl_8 hX hu h10
      have same : ∀ u', u' < X.length → gl X u' = x → k u' = k u := fun u' hu' e' => G.2.1 u' u hu' hu (by rw [name_sub hX hu' (by omega), name_sub hX hu h10, e', hx])
      by_cases d : ∃ q, q < X.length ∧ k q = k u ∧ 10 ≤ gl X q
      · obtain ⟨q, h1, h2, h3⟩ := d
        exact ⟨some q, fun q' e => by cases e; exact ⟨by omega, h1, u, hu, hx, h2.symm, Or.inl h3⟩, fun e => by cases e⟩
      · have nh : ∀ z, z < X.length → k z = k u → gl X z < 10 := fun z hz ez => by
          rcases Nat.lt_or_ge (gl X z) 10 with w | w
          · exact w
          · exact absurd ⟨z, hz, ez, w⟩ d
        obtain ⟨q, ⟨h1, h2⟩, h3⟩ := exMin (A := fun q => q < X.length ∧ k q = k u) (f := gl X) (gl X u) u (Nat.le_refl _) ⟨hu, rfl⟩
        by_cases w : gl X q < x
        · exact ⟨some q, fun q' e => by cases e; exact ⟨by omega, h1, u, hu, hx, h2.symm, Or.inr ⟨w, fun z hz ez => ⟨h3 z ⟨hz, by rw [ez, h2]⟩, nh z hz (by rw [ez, h2])⟩⟩⟩, fun e => by cases e⟩
        · refine ⟨none, fun q' e => (by cases e), fun _ u' hu' e' _ z hz ez => ?_⟩
          have ez2 : k z = k u := by rw [ez, same u' hu' e']
          have := h3 z ⟨hz, ez2⟩
          exact ⟨by omega, nh z hz ez2⟩
    · exact ⟨none, fun q e => (by cases e), fun _ u hu e h10 => absurd ⟨u, hu, e, h10⟩ c⟩
  obtain ⟨S, hS⟩ := Classical.axiomOfChoice one
  exact ⟨S, fun x q e => (hS x).1 q e, fun u hu h10 e => (hS _).2 e u hu rfl h10⟩
theorem InP.can {X : List Nat} {n1 : Nat} (hY : BY X n1) {ts : List (List Nat)} {of' pt : List Nat} {can : Bool} (H : InP X n1 ts of' pt can) : (can = true → MnK X n1 (oK X of') ∧ AcK X (oK X of')) ∧ ((∃ k, MnK X n1 k ∧ AcK X k) → can = true) := by
  obtain ⟨rfl, x1, p1, j1, i0, i1, c1, g, a1, a2, a3, a4, a5, a6⟩ := H
  obtain ⟨m1, m2⟩ := joinF_mn hY x1 a1 a2 a3
  constructor
  · intro hc
    rw [a6, Bool.and_eq_true, Bool.not_eq_true'] at hc
    exact ⟨m1 hc.1, (round_ok hY.1 x1 (m1 hc.1) a4 a5).mp hc.2⟩
  · rintro ⟨k, M, A⟩
    have hc := m2 ⟨k, M.1⟩
    have M' := m1 hc
    rw [a6, hc, (round_ok hY.1 x1 M' a4 a5).mpr (AcK.of M M' A)]
    rfl
theorem PEc.of {one other : List Nat} (t1 : TW one ∧ one.length ≤ 16) (t2 : TW other ∧ other.length ≤ 16) {k : Nat → Nat} (M : MnK (one ++ other) one.length k) (A : AcK (one ++ other) k) : ∃ E, PEc one other E := by
  obtain ⟨bY, -, -⟩ := BY_of t1 t2
  obtain ⟨S, H⟩ := SKP.ex bY.1 M.1
  obtain ⟨E, hE⟩ := ExP.ex bY.1 H.s1 (H.ac bY.1 M.1 A)
  exact ⟨E, k, S, M, A, H, hE⟩
theorem SKP.non {X : List Nat} {k : Nat → Nat} {S : SS} (H : SKP X k S) {x : Nat} (h : ¬ ∃ u, u < X.length ∧ gl X u = x) : S x = none := by
  cases e : S x with
  | none => rfl
  | some q =>
    obtain ⟨-, -, u, h1, h2, -⟩ := H.1 x q e
    exact absurd ⟨u, h1, h2⟩ h
/-- the rows of the reference's classes -/
theorem an_rows {X : List Nat} {n1 : Nat} (hX : BX X) {pt of' : List Nat} (HP : PtX (tsN X X.length) pt (tsN X X.length).length 0) {S : SS} (H : SKP X (oK X of') S) (G : GdK X n1 (oK X of')) (A : AcK X (oK X of')) {E : Nat → List Nat} (hE : ExP X S E) {F C N C' N' : Nat} {r : Option (List (List Nat))} (h : anF (tsN X X.length) of' pt F (tsN X X.length).length 0 [[0], [1], [2], [3], [4], [5], [6], [7]] C N = some (r, C', N')) :
    (r = none ∧ ∃ x, x < 8 ∧ 16 < (E x).length) ∨ r = some ((List.range 8).map E) := by
  have hx0 : ∀ x, x < 8 → ([[0], [1], [2], [3], [4], [5], [6], [7]] : List (List Nat)).getD x [] = [x] := by decide
  have nE : ∀ x, (¬ ∃ u, u < X.length ∧ gl X u = x) → E x = [x] := fun x hx => by
    have := hE x
    rw [H.non hx] at this
    exact this
  obtain ⟨k1, k2⟩ := anF_rel hX HP H G A hE (tsN X X.length).length 0 _ C N r C' N' (Nat.zero_add _) rfl (fun x hx => by
    by_cases c : ∃ u, u < X.length ∧ gl X u = x
    · obtain ⟨u, hu, rfl⟩ := c
      exact Or.inr ⟨hx0 _ hx, nuX X u, Nat.zero_le _, by rw [Nat.zero_add]; exact nuX_lt X hu, nuX_hd hX hu⟩
    · exact Or.inl (by rw [hx0 x hx, nE x c])) h
  by_cases hl : ∀ x, x < 8 → (E x).length ≤ 16
  · exact Or.inr (k1 hl)
  · obtain ⟨x, hx⟩ := Classical.not_forall.mp hl
    obtain ⟨hx8, hx16⟩ := Classical.not_imp.mp hx
    refine Or.inl ⟨k2 ?_, x, hx8, by omega⟩
    by_cases c : ∃ u, u < X.length ∧ gl X u = x
    · obtain ⟨u, hu, rfl⟩ := c
      have e := nuX_hd hX hu
      exact ⟨nuX X u, Nat.zero_le _, by rw [Nat.zero_add]; exact nuX_lt X hu, by rw [e]; exact hx8, by rw [e]; omega⟩
    · rw [nE x c] at hx16
      exact absurd (Nat.le_of_ble_eq_true rfl) hx16
theorem wh_one {X : List Nat} (hX : BX X) {S : SS} (hS : S1 X S) (hA : Ac X S) {E : Nat → List Nat} (hE : ExP X S E) {f i C N : Nat} {r : List Nat} (hi : i < 8) (h : whF f (smO X S) [i] 0 = some (r, C, N)) : ((E i).length ≤ 16 → r = E i) ∧ (16 < (E i).length → 16 < r.length) := by
  have k := wh_rel hX hS hA hE f [i] 0 r C N (fun y hy => by rw [List.mem_singleton.mp hy]; exact Or.inl hi) h
  have e : ([i] : List Nat).take 0 ++ exF E (([i] : List Nat).drop 0) = E i := by
    rw [List.take_zero, List.drop_zero, exF_cons]
    unfold exN
    rw [if_pos (by omega)]
    exact (List.nil_append _).trans (List.append_nil _)
  rw [e] at k
  exact k
theorem how_in {x : Int32} (h : x = 0 ∨ x = 1) : inN 2 x := by
  rcases h with rfl | rfl
  · exact ⟨0, by decide, by decide⟩
  · exact ⟨1, by decide, by decide⟩
theorem in_how {j : Nat} (h : j < 2) : nI j = 0 ∨ nI j = 1 := by
  rcases Nat.lt_or_ge j 1 with c | c
  · exact Or.inl (by rw [show j = 0 by omega]; decide)
  · exact Or.inr (by rw [show j = 1 by omega]; decide)
theorem toldS_some (k : Nat) (rows : List (List Nat)) (st : ST) : toldS k (some rows) st = becA k rows st := rfl
theorem becA_long {E : Nat → List Nat} (h : ∃ x, x < 8 ∧ 16 < (E x).length) (k : Nat) (st : ST) : becA k ((List.range 8).map E) st = noS st := by
  obtain ⟨x, h1, h2⟩ := h
  exact if_pos (List.any_eq_true.mpr ⟨E x, List.mem_map.mpr ⟨x, List.mem_range.mpr h1, rfl⟩, decide_eq_true h2⟩)
/-- null because a row is too long; or eight new rows, as whole tells them -/
def RF.ansX (B0 : Nat) (h : AH) (f : Nat) (sm : SM) (v : Option Value) (h' : AH) : Prop := (v = some .null ∧ Ext h h' ∧ ∃ i, i < 8 ∧ ∃ r c n, whF f sm [i] 0 = some (r, c, n) ∧ 16 < r.length) ∨ ∃ rows, (∀ k, k < 8 → ∃ r c n, rows[k]? = some r ∧ whF f sm [k] 0 = some (r, c, n)) ∧ AO rows ∧ newR B0 h rows v h'
section E4a
variable {la : Launch} {D : va_G} {cA : Nat → ClassId} {B0 pa : Nat} {o9 St : Nat} {sm : SM} {mm ww : Nat}
set_option maxHeartbeats 16000000 in
theorem RF.c_stAnswer (h : AH) (M : SI h o9 St sm mm ww) {f C N : Nat} (HW : ∀ k, k < 8 → ∃ r c n, whF f sm [k] 0 = some (r, c, n) ∧ c ≤ C ∧ n ≤ N) : CT la D cA B0 pa yX9_answer cX9_answer 3 (some (.array (.array .int))) (rmD 2 (1 + 8 * (1 + C)) (8 + 8 * (1 + N))) [.ref o9] h (ansX B0 h f sm) := by
  refine CT_of (by decide +kernel) (Nat.le_of_ble_eq_true rfl) ?_
  intro p e s m args below meth c X E hr hlk hnm
  have dk : ∀ {pc : Nat} {q : Instr × Nat}, lkd DX9_answer pc = some q → decode cX9_answer pc = .ok q := lkd_ok DX9_answer_ok
  refine fst1_ok X (dk rfl) rfl ?_
  refine newR_ok (N := 8) (kd := 105) X E (by decide) cl9_9 (by decide) (dk rfl) (by show 0 + 1 ≤ 1 + 8 * (1 + C); omega) (by show 0 + 8 ≤ 8 + 8 * (1 + N); omega) (fun T hT hBT => ?_)
  have loop : ∀ (d i : Nat), d = 8 - i → i ≤ 8 → ∀ (hh : AH) (as : List Nat) (rows : List (List Nat)) (l : List (Nat × Value)), lsel l [2, 1, 0] = [(2, vI i), (1, .ref T), (0, .ref o9)] → as.length = i → rows.length = i → hh T = some (105, filR as 8) → (∀ (k b : Nat) (r : List Nat), as[k]? = some b → rows[k]? = some r → hh b = some (IA r)) → (∀ r ∈ rows, TW r ∧ r.length ≤ 16) → (∀ k, k < i → ∃ r c n, rows[k]? = some r ∧ whF f sm [k] 0 = some (r, c, n)) → Ext h hh →
      WR p la e (rmD 2 (1 + 8 * (1 + C)) (8 + 8 * (1 + N))) s m args below meth c D cA B0 3 (ansX B0 h f sm) 8 l [] hh (1 + i * (1 + C)) (8 + i * (1 + N)) := by
    intro d
    induction d with
    | zero =>
      intro i hd hi hh as rows l hl ha hrl hTh has hro hwr XX
      have hi2 : i = 8 := by omega
      subst hi2
      refine WS.sel [2, 1, 0] hl ?_
      repeat refine fst1_ok X (dk rfl) rfl ?_
      refine br_ok X (dk rfl) rfl (show ((11 : Nat) : Int) + 28 = ((39 : Nat) : Int) from rfl) (fun _ => ?_) (fun c1 => absurd (by decide) c1)
      refine fst1_ok X (dk rfl) rfl ?_
      exact reta_ok X hr hlk (Or.inr ⟨_, rfl⟩) (Or.inr ⟨_, rfl⟩) (dk rfl) (Or.inr ⟨rows, hwr, ⟨hrl, hro⟩, T, rfl, hT, hBT, XX, as, by omega, by rw [hTh, ← ha, filR_end], has⟩) (Nat.le_refl _) (Nat.le_refl _)
    | succ d ih =>
      intro i hd hi hh as rows l hl ha hrl hTh has hro hwr XX
      obtain ⟨r, c1, n1, hw, hc, hn⟩ := HW i (by omega)
      have f2 : Value.int (nI i + Int32.ofInt 1) = vI (i + 1) := congrArg Value.int (by rw [nI_1', nI_add])
      have q1 : 1 + i * (1 + C) + (1 + C) ≤ 1 + 8 * (1 + C) := by
        have := Nat.mul_le_mul_right (1 + C) (show i + 1 ≤ 8 by omega)
        rw [Nat.add_mul, Nat.one_mul] at this
        omega
      have q2 : 8 + i * (1 + N) + (1 + N) ≤ 8 + 8 * (1 + N) := by
        have := Nat.mul_le_mul_right (1 + N) (show i + 1 ≤ 8 by omega)
        rw [Nat.add_mul, Nat.one_mul] at this
        omega
      have q3 : 1 + i * (1 + C) + (1 + C) = 1 + (i + 1) * (1 + C) := by rw [Nat.add_mul i 1, Nat.one_mul, Nat.add_assoc]
      have q4 : 8 + i * (1 + N) + (1 + N) = 8 + (i + 1) * (1 + N) := by rw [Nat.add_mul i 1, Nat.one_mul, Nat.add_assoc]
      refine WS.sel [2, 1, 0] hl ?_
      repeat refine fst1_ok X (dk rfl) rfl ?_
      refine br_ok X (dk rfl) rfl (show ((11 : Nat) : Int) + 28 = ((39 : Nat) : Int) from rfl) (fun c1 => absurd c1 (nI_ge (a := i) (b := 8) (by omega) (by omega))) (fun _ => ?_)
      repeat refine fst1_ok X (dk rfl) rfl ?_
      refine callSN_ok (av := [vI i]) (r := [.ref o9, vI i, .ref T]) X E (c_row hh i) lkX10_row mnX9_73 lsX10_row ⟨Nat.le_of_ble_eq_true rfl, Nat.le_of_ble_eq_true rfl⟩ ⟨by show 1 + i * (1 + C) + 1 ≤ 1 + 8 * (1 + C); omega, by show 8 + i * (1 + N) + 1 ≤ 8 + 8 * (1 + N); omega⟩ (Nat.le_of_ble_eq_true rfl) (dk rfl) ?_
      rintro v h2 ⟨q, rfl, hq, hBq, rfl⟩
      have XQ := Ext.new hq (IA [i])
      refine callV_ok (ci := 11) (T := TX9) (N := 3) (av := [.ref q]) (r := [vI i, .ref T]) X E (c_whole _ (M.ext (XX.trans XQ)) (hup_self _ _ _) ⟨TW.name (by omega), by simp⟩ hw) lkX9_whole mlX9_77 lmX9_whole lvX9_whole ⟨Nat.le_of_ble_eq_true rfl, Nat.le_of_ble_eq_true rfl⟩ ⟨by show 1 + i * (1 + C) + 1 + c1 ≤ 1 + 8 * (1 + C); omega, by show 8 + i * (1 + N) + 1 + n1 ≤ 8 + 8 * (1 + N); omega⟩ rfl (M.ext (XX.trans XQ)).1 (Nat.le_of_ble_eq_true rfl) (dk rfl) ?_
      rintro v h3 ⟨X3, hv⟩
      have X4 := XQ.trans X3
      have hT3 := X4 _ _ hTh
      refine WS.widen (k' := 1 + (i + 1) * (1 + C)) (n' := 8 + (i + 1) * (1 + N)) (by show 1 + i * (1 + C) + 1 + c1 ≤ 1 + (i + 1) * (1 + C); omega) (by show 8 + i * (1 + N) + 1 + n1 ≤ 8 + (i + 1) * (1 + N); omega) ?_
      have lf : (filR as 8).length = 8 := filR_len (by omega)
      rcases hv with ⟨h16, rfl⟩ | ⟨h16, tr, q5, rfl, hq5⟩
      · have e : (nI i).toNatClampNeg = i := nI_clamp (by omega)
        refine astN_ok X (dk rfl) hT3 rfl ⟨nI_pos (by omega), by rw [e, lf]; omega⟩ ?_
        rw [e]
        have XN : Ext h (hup h3 T (105, (filR as 8).set i .null)) := (XX.trans X4).set hT _
        iterate 2 refine fst1_ok X (dk rfl) rfl ?_
        refine ald_ok X (Or.inr (Or.inr ⟨rfl, by decide⟩)) (dk rfl) (hup_self _ _ _) (inA_nI (v := .null) (by omega) (List.getElem?_set_self (by rw [lf]; omega))) ?_
        refine br_ok X (dk rfl) rfl (show ((28 : Nat) : Int) + 5 = ((33 : Nat) : Int) from rfl) (fun c3 => absurd c3 (fun z => z)) (fun _ => ?_)
        refine fst1_ok X (dk rfl) rfl ?_
        exact reta_ok X hr hlk (Or.inr ⟨_, rfl⟩) (Or.inl rfl) (dk rfl) (Or.inl ⟨rfl, XN, i, by omega, r, c1, n1, hw, h16⟩) (by show 1 + (i + 1) * (1 + C) ≤ 1 + 8 * (1 + C); omega) (by show 8 + (i + 1) * (1 + N) ≤ 8 + 8 * (1 + N); omega)
      · refine str_ok X (dk rfl) hT3 hq5 (by rw [lf]; omega) (by rw [lf]; omega) ?_
        rw [show (filR as 8).set i (.ref q5) = filR (as ++ [q5]) 8 by rw [← ha]; exact filR_set (by omega)]
        iterate 2 refine fst1_ok X (dk rfl) rfl ?_
        refine ald_ok X (Or.inr (Or.inr ⟨rfl, by decide⟩)) (dk rfl) (hup_self _ _ _) (inA_nI (v := .ref q5) (by omega) (filR_get (by rw [← ha]; exact List.getElem?_concat_length))) ?_
        refine br_ok X (dk rfl) rfl (show ((28 : Nat) : Int) + 5 = ((33 : Nat) : Int) from rfl) (fun _ => ?_) (fun c3 => absurd trivial c3)
        repeat refine fst1_ok X (dk rfl) rfl ?_
        refine br_ok X (dk rfl) rfl (show ((36 : Nat) : Int) + (-28) = ((8 : Nat) : Int) from rfl) (fun _ => ?_) (fun q => absurd trivial q)
        refine WS.sel (l' := [(2, vI (i + 1)), (1, .ref T), (0, .ref o9)]) [2, 1, 0] (by rw [← f2]; rfl) ?_
        have kI : ∀ {b : Nat} {x : List Nat}, h3 b = some (IA x) → hup h3 T (105, filR (as ++ [q5]) 8) b = some (IA x) := fun {b x} hb => by rw [hup_ne _ _ (IA_ne hb hT3)]; exact hb
        refine ih (i + 1) (by omega) (by omega) _ (as ++ [q5]) (rows ++ [r]) _ rfl (by rw [List.length_append, ha]; rfl) (by rw [List.length_append, hrl]; rfl) (hup_self _ _ _) (fun k b x k1 k2 => ?_) (fun x hx => ?_) (fun k hk => ?_) ((XX.trans X4).set hT _)
        · rcases Nat.lt_or_ge k i with z | z
          · rw [List.getElem?_append_left (by omega)] at k1 k2
            exact kI (X4 _ _ (has k b x k1 k2))
          · have hk : k = i := by have := (List.getElem?_eq_some_iff.mp k1).1; rw [List.length_append, List.length_singleton] at this; omega
            have k3 : (as ++ [q5])[k]? = some q5 := by rw [hk, ← ha]; exact List.getElem?_concat_length
            have k4 : (rows ++ [r])[k]? = some r := by rw [hk, ← hrl]; exact List.getElem?_concat_length
            cases k1.symm.trans k3
            cases k2.symm.trans k4
            exact kI hq5
        · rcases List.mem_append.mp hx with z | z
          · exact hro x z
          · simp at z; rw [z]; exact ⟨tr, h16⟩
        · rcases Nat.lt_or_ge k i with z | z
          · obtain ⟨r0, c0, n0, e0, w0⟩ := hwr k z
            exact ⟨r0, c0, n0, by rw [List.getElem?_append_left (by omega)]; exact e0, w0⟩
          · have ek : k = i := by omega
            rw [ek]
            exact ⟨r, c1, n1, by rw [← hrl]; exact List.getElem?_concat_length, hw⟩
  iterate 3 refine fst1_ok X (dk rfl) rfl ?_
  refine WS.widen (k' := 1 + 0 * (1 + C)) (n' := 8 + 0 * (1 + N)) (by show 0 + 1 ≤ 1 + 0 * (1 + C); omega) (by show 0 + 8 ≤ 8 + 0 * (1 + N); omega) ?_
  exact loop 8 0 rfl (Nat.zero_le _) _ [] [] _ rfl rfl rfl (by rw [hup_self, filR_0]) (fun k b r k1 => by simp at k1) (fun r hr => by simp at hr) (fun k hk => absurd hk (Nat.not_lt_zero k)) (Ext.new hT _)
end E4a
section E4
variable {la : Launch} {D : va_G} {cA : Nat → ClassId} {B0 pa : Nat} {o S A : Nat} {sl : List (List Nat)} {an : List (List (List Nat))} {da dr kn th : Int32}
set_option maxHeartbeats 4000000 in
theorem RF.c_canBe (h : AH) {u1 u2 : Nat} {one other : List Nat} (x : Int32) {C N : Nat} (hC : 37 ≤ C ∧ 709 ≤ N) (hGo : x = 0 → ∀ G : GS, goF 40 one other none8 0 0 = some G → 2 + G.2.2.2.1 ≤ C ∧ 11 + G.2.2.2.2 ≤ N) (hu1 : h u1 = some (IA one)) (hu2 : h u2 = some (IA other)) (t1 : TW one ∧ one.length ≤ 16) (t2 : TW other ∧ other.length ≤ 16) : CT la D cA B0 pa yX10_canBe cX10_canBe 3 (some .boolean) (rmD 85 C N) [.ref u1, .ref u2, .int x] h (fun v h' => ∃ b : Bool, v = some (.int (bI b)) ∧ Ext h h' ∧ (b = true → CanR one other x) ∧ (b = true ↔ ∃ E, PEx x one other E)) := by
  refine CT_of (by decide +kernel) (Nat.le_of_ble_eq_true rfl) ?_
  intro p e s m args below meth c X E hr hlk hnm
  have dk : ∀ {pc : Nat} {q : Instr × Nat}, lkd DX10_canBe pc = some q → decode cX10_canBe pc = .ok q := lkd_ok DX10_canBe_ok
  refine fst1_ok X (dk rfl) rfl ?_
  refine br_ok X (dk rfl) rfl (show ((1 : Nat) : Int) + 26 = ((27 : Nat) : Int) from rfl) (fun hx => ?_) (fun hx => ?_)
  · obtain ⟨hY, z1, z2⟩ := BY_of t1 t2
    refine new_ok X nc10_165 (dk rfl) (by show 0 + 1 ≤ C; omega) (by show 0 + 5 ≤ N; omega) (fun u hu hBu => ?_)
    have XU := Ext.new hu ((10, [Value.null, .null, .null, .int 0, .int 0]) : AC)
    repeat refine fst1_ok X (dk rfl) rfl ?_
    refine callI_ok (av := [.ref u1, .ref u2]) (r := [.ref u]) X E (c_init8 _ hY (hup_self _ _ _) (by rw [z1]; exact XU _ _ hu1) (by rw [z2]; exact XU _ _ hu2)) lkX8_init mlX10_167 lmX8_init rfl ⟨Nat.le_of_ble_eq_true rfl, Nat.le_of_ble_eq_true rfl⟩ ⟨by show 0 + 1 + 36 ≤ C; omega, by show 0 + 5 + 704 ≤ N; omega⟩ (Nat.le_of_ble_eq_true rfl) (dk rfl) ?_
    rintro v h2 ⟨rfl, ⟨T, O, Q, ts, of', pt, can, M2, hI⟩, F2⟩
    have X2 : Ext h h2 := fun b c e => F2 b c (fun z => by rw [z, hu] at e; cases e) (XU _ _ e)
    refine getfN_ok X E.2.1 fnX10_207 (dk rfl) M2.1 rfl ?_
    exact reti_ok X hr hlk (bI_n can) (dk rfl) ⟨can, rfl, X2, (fun hc => ⟨fun z => absurd z hx, fun _ => ⟨ts, of', pt, by rw [← hc]; exact hI⟩⟩), ⟨fun hc => by
      obtain ⟨m1, m2⟩ := (hI.can hY).1 hc
      obtain ⟨E9, pe⟩ := PEc.of t1 t2 m1 m2
      exact ⟨E9, by unfold PEx; rw [if_neg hx]; exact pe⟩, fun ⟨E9, pe⟩ => by
      unfold PEx at pe
      rw [if_neg hx] at pe
      obtain ⟨k9, S9, m1, m2, -⟩ := pe
      exact (hI.can hY).2 ⟨k9, m1, m2⟩⟩⟩ (by show 0 + 1 + 36 ≤ C; omega) (by show 0 + 5 + 704 ≤ N; omega)
  · have hx0 : x = 0 := Decidable.not_not.mp hx
    obtain ⟨G, hG, g1, -⟩ := goE t1 t2
    obtain ⟨g2, g3⟩ := hGo hx0 G hG
    refine new_ok X nc10_157 (dk rfl) (by show 0 + 1 ≤ C; omega) (by show 0 + 3 ≤ N; omega) (fun u hu hBu => ?_)
    have XU := Ext.new hu ((11, [Value.null, .int 0, .int 0]) : AC)
    repeat refine fst1_ok X (dk rfl) rfl ?_
    refine callI_ok (av := [.ref u1, .ref u2]) (r := [.ref u]) X E (c_stepsInit _ (hup_self _ _ _) (XU _ _ hu1) (XU _ _ hu2) t1 t2 hG) lkX9_init mlX10_159 lmX9_init rfl ⟨Nat.le_of_ble_eq_true rfl, Nat.le_of_ble_eq_true rfl⟩ ⟨by show 0 + 1 + (1 + G.2.2.2.1) ≤ C; omega, by show 0 + 3 + (8 + G.2.2.2.2) ≤ N; omega⟩ (Nat.le_of_ble_eq_true rfl) (dk rfl) ?_
    rintro v h2 ⟨rfl, ⟨St, hSt, M2⟩, F2⟩
    have X2 : Ext h h2 := fun b c e => F2 b c (fun z => by rw [z, hu] at e; cases e) (XU _ _ e)
    refine getfN_ok X E.2.1 fnX10_204 (dk rfl) M2.1 rfl ?_
    have kl : 0 + 1 + (1 + G.2.2.2.1) ≤ C ∧ 0 + 3 + (8 + G.2.2.2.2) ≤ N := ⟨by omega, by omega⟩
    refine br_ok X (dk rfl) rfl (show ((16 : Nat) : Int) + 7 = ((23 : Nat) : Int) from rfl) (fun hz => ?_) (fun hz => ?_)
    · refine fst1_ok X (dk rfl) rfl ?_
      refine br_ok X (dk rfl) rfl (show ((24 : Nat) : Int) + 15 = ((39 : Nat) : Int) from rfl) (fun _ => ?_) (fun q => absurd trivial q)
      exact reti_ok X hr hlk (bI_n false) (dk rfl) ⟨false, rfl, X2, (fun hc => by cases hc), ⟨fun hc => (by cases hc), fun ⟨E9, pe⟩ => by
        unfold PEx at pe
        rw [if_pos hx0] at pe
        obtain ⟨G2, S2, b1, b2, -⟩ := pe
        rw [hG] at b1
        cases b1
        exact absurd (by rw [b2]; decide) hz⟩⟩ kl.1 kl.2
    · refine fst1_ok X (dk rfl) rfl ?_
      refine br_ok X (dk rfl) rfl (show ((20 : Nat) : Int) + 19 = ((39 : Nat) : Int) from rfl) (fun _ => ?_) (fun q => absurd trivial q)
      refine reti_ok X hr hlk (bI_n true) (dk rfl) ⟨true, rfl, X2, (fun _ => ⟨fun _ => ⟨G, hG, ?_⟩, fun z => absurd hx0 z⟩), ⟨fun _ => ?_, fun _ => rfl⟩⟩ kl.1 kl.2
      · have hz' : nI G.2.2.1 = nI 0 := Decidable.not_not.mp hz
        exact (nI_eq (by omega) (by omega)).mp hz'
      · have hz' : nI G.2.2.1 = nI 0 := Decidable.not_not.mp hz
        have hw := (nI_eq (by omega) (by omega)).mp hz'
        obtain ⟨Gs, Sx, q1, q2, q3, q4, q5, q6, q7⟩ := runM_ok t1 t2
        rw [hG] at q1
        cases q1
        obtain ⟨bY, -, -⟩ := BY_of t1 t2
        obtain ⟨E9, hE⟩ := ExP.ex bY.1 q3 (q6 hw)
        refine ⟨E9, ?_⟩
        unfold PEx
        rw [if_pos hx0]
        exact ⟨G, Sx, hG, hw, by rw [hw] at q7; exact q7, q3, q6 hw, q4, hE⟩
set_option maxHeartbeats 4000000 in
theorem RF.c_alike (h : AH) (M : MD h o S A sl an da dr kn th) (x1 x2 x3 x4 : Int32) : CT la D cA B0 pa yX10_alike cX10_alike 6 (some .int) (rmD 87 8600 102600) [.ref o, .int x1, .int x2, .int x3, .int x4] h (refR o S A kn (aAlike x1 x2 x3 x4 (sl, an, da, dr)) h) := by
  refine CT_of (by decide +kernel) (Nat.le_of_ble_eq_true rfl) ?_
  intro p e s m args below meth c X E hr hlk hnm
  have dk : ∀ {pc : Nat} {q : Instr × Nat}, lkd DX10_alike pc = some q → decode cX10_alike pc = .ok q := lkd_ok DX10_alike_ok
  have mid2 : ∀ t1 t2 : Bool, (t1 = false → inN 6 x1 ∧ inN 6 x2 ∧ inN 3 x3) → (t1 = true → ¬ (inN 6 x1 ∧ inN 6 x2 ∧ inN 3 x3)) → (t2 = false → inN 2 x4) → (t2 = true → ¬ (inN 2 x4)) → WR p la e (rmD 87 8600 102600) s m args below meth c D cA B0 6 (refR o S A kn (aAlike x1 x2 x3 x4 (sl, an, da, dr)) h) 43 (lv_args 0 [.ref o, .int x1, .int x2, .int x3, .int x4]) [.int (bI t2), .int (bI t1), .ref o] h 0 0 := by
    intro t1 t2 ht1 hn1 ht2 hn2
    refine thr2_ok X E M ⟨Nat.le_of_ble_eq_true rfl, Nat.le_of_ble_eq_true rfl⟩ ⟨Nat.le_of_ble_eq_true rfl, Nat.le_of_ble_eq_true rfl⟩ (Nat.le_of_ble_eq_true rfl) (dk rfl) (fun h1 M1 F1 => ?_)
    cases hb : (t1 || t2) with
    | true =>
      have hT1 : ¬ (inN 6 x1 ∧ inN 6 x2 ∧ inN 3 x3) → aAlike x1 x2 x3 x4 (sl, an, da, dr) = ((1, 0), (sl, an, da, dr)) := (fun hn => by
          unfold aAlike
          by_cases q0 : okI 6 x1 = true
          rotate_left
          · exact if_neg q0
          rw [if_pos q0]
          by_cases q1 : okI 6 x2 = true
          rotate_left
          · exact if_neg q1
          rw [if_pos q1]
          by_cases q2 : okI 3 x3 = true
          rotate_left
          · exact if_neg q2
          rw [if_pos q2]
          exact absurd ⟨okI_in (by decide) q0, okI_in (by decide) q1, okI_in (by decide) q2⟩ hn)
      have hT2 : (inN 6 x1 ∧ inN 6 x2 ∧ inN 3 x3) → ¬ (inN 2 x4) → aAlike x1 x2 x3 x4 (sl, an, da, dr) = ((2, 0), (sl, an, da, dr)) := (fun hp hq => by
          unfold aAlike
          rw [if_pos (okI_of (by decide) (hp.1)), if_pos (okI_of (by decide) (hp.2.1)), if_pos (okI_of (by decide) (hp.2.2)), if_neg (fun z => hq (how_in z))])
      have hE : aAlike x1 x2 x3 x4 (sl, an, da, dr) = ((thI t1 t2, 0), (sl, an, da, dr)) := by
        cases t1 with
        | true => exact hT1 (hn1 rfl)
        | false =>
          cases t2 with
          | true => exact hT2 (ht1 rfl) (hn2 rfl)
          | false => cases hb
      refine br_ok X (dk rfl) rfl (show ((46 : Nat) : Int) + 5 = ((51 : Nat) : Int) from rfl) (fun q => absurd q bI_t) (fun _ => ?_)
      refine fst1_ok X (dk rfl) rfl ?_
      exact reti_ok X hr hlk rfl (dk rfl) (refR_thr M1 F1 hE (by decide +kernel)) (Nat.zero_le _) (Nat.zero_le _)
    | false =>
      refine br_ok X (dk rfl) rfl (show ((46 : Nat) : Int) + 5 = ((51 : Nat) : Int) from rfl) (fun _ => ?_) (fun q => absurd bI_f' q)
      obtain ⟨hb1, hb2⟩ := Bool.or_eq_false_iff.mp hb
      obtain ⟨⟨j1, hj1, rfl⟩, ⟨j2, hj2, rfl⟩, ⟨j3, hj3, rfl⟩⟩ := ht1 hb1
      obtain ⟨j4, hj4, rfl⟩ := ht2 hb2
      have th0 : thI t1 t2 = 0 := by
        cases t1 with
        | true => cases hb
        | false =>
          cases t2 with
          | true => cases hb
          | false => rfl
      rw [th0] at M1
      obtain ⟨ss, s1, s2, s3⟩ := M1.slot
      obtain ⟨as, a1, a2, a3⟩ := M1.ans
      obtain ⟨b1, y1, e1, f1, g1, w1, n1⟩ := s3 j1 hj1
      have ly1 : (y1.map vI).length = y1.length := List.length_map _
      obtain ⟨b2, y2, e2, f2, g2, w2, n2⟩ := s3 j2 hj2
      have ly2 : (y2.map vI).length = y2.length := List.length_map _
      obtain ⟨b3, y3, e3, f3, g3, w3, n3⟩ := a3 j3 hj3
      obtain ⟨C, N, ac1, ac2, ac3, ac4, ac5⟩ := alC_ok ⟨w1, n1⟩ ⟨w2, n2⟩ (nI j4)
      repeat refine fst1_ok X (dk rfl) rfl ?_
      refine getf_ok X flX10_11 (dk rfl) M1.obj rfl ?_
      refine fst1_ok X (dk rfl) rfl ?_
      refine ldr_ok X (dk rfl) s2 e1 (by omega) ?_
      repeat refine fst1_ok X (dk rfl) rfl ?_
      refine getf_ok X flX10_11 (dk rfl) M1.obj rfl ?_
      refine fst1_ok X (dk rfl) rfl ?_
      refine ldr_ok X (dk rfl) s2 e2 (by omega) ?_
      repeat refine fst1_ok X (dk rfl) rfl ?_
      refine callS_ok (av := [.ref b1, .ref b2, .int (nI j4)]) (r := []) X E (c_canBe h1 (nI j4) ac1 ac2 g1 g2 ⟨w1, n1⟩ ⟨w2, n2⟩) lkX10_canBe mlX10_153 lsX10_canBe ⟨Nat.le_of_ble_eq_true rfl, Nat.le_of_ble_eq_true rfl⟩ ⟨by show 0 + C ≤ 8600; omega, by show 0 + N ≤ 102600; omega⟩ (Nat.le_of_ble_eq_true rfl) (dk rfl) ?_
      rintro v h2 ⟨bb, rfl, XQ, hcan, hex⟩
      have M2 := M1.ext XQ
      have FQ := F1.trans (Fr.ext XQ)
      cases bb with
      | false =>
        refine br_ok X (dk rfl) rfl (show ((68 : Nat) : Int) + 9 = ((77 : Nat) : Int) from rfl) (fun q => absurd q bI_f) (fun _ => ?_)
        repeat refine fst1_ok X (dk rfl) rfl ?_
        refine done_ok X E M2 ⟨Nat.le_of_ble_eq_true rfl, Nat.le_of_ble_eq_true rfl⟩ ⟨by show 0 + C ≤ 8600; omega, by show 0 + N ≤ 102600; omega⟩ (Nat.le_of_ble_eq_true rfl) (dk rfl) (fun h9 M9 F9 => ?_)
        exact reti_ok X hr hlk rfl (dk rfl) (refR_ok M9 ((FQ).trans F9) (by unfold aAlike; dsimp only; rw [if_pos (okI_t hj1 (by decide)), if_pos (okI_t hj2 (by decide)), if_pos (okI_t hj3 (by decide)), if_pos (in_how hj4), xI_n (by omega), xI_n (by omega), xI_n (by omega), getD_of f1, getD_of f2]; rw [rowsA_no (fun z => by have := hex.mpr z; cases this)]; rfl)) (by show 0 + C ≤ 8600; omega) (by show 0 + N ≤ 102600; omega)
      | true =>
        obtain ⟨E9, pe⟩ := hex.mp rfl
        have erw := rowsA_yes ⟨w1, n1⟩ ⟨w2, n2⟩ pe
        have endA : ∀ (h3 : AH) (q : Nat) (rows : List (List Nat)) (l : List (Nat × Value)), lsel l [3, 0] = [(3, vI j3), (0, .ref o)] → Ext h2 h3 → Ans h3 q rows → AO rows → rows = (List.range 8).map E9 → q ≠ S → WR p la e (rmD 87 8600 102600) s m args below meth c D cA B0 6 (refR o S A kn (aAlike (nI j1) (nI j2) (nI j3) (nI j4) (sl, an, da, dr)) h) 129 l [.ref q] h3 8500 102500 := by
          intro h3 q rows l hl X3 hq hA er hqS
          refine WS.sel [3, 0] hl ?_
          have M3 := M2.ext X3
          repeat refine fst1_ok X (dk rfl) rfl ?_
          refine br_ok X (dk rfl) rfl (show ((133 : Nat) : Int) + 10 = ((143 : Nat) : Int) from rfl) (fun _ => ?_) (fun q => absurd trivial q)
          repeat refine fst1_ok X (dk rfl) rfl ?_
          refine callV_ok (ci := 12) (T := TX10) (N := 6) (av := [vI j3, .ref q]) (r := []) X E (c_become h3 M3 hj3 hq hA hqS) lkX10_become mlX10_145 lmX10_become lpX10_become ⟨Nat.le_of_ble_eq_true rfl, Nat.le_of_ble_eq_true rfl⟩ ⟨Nat.le_of_ble_eq_true rfl, Nat.le_of_ble_eq_true rfl⟩ rfl M3.obj (Nat.le_of_ble_eq_true rfl) (dk rfl) ?_
          rintro v h4 ⟨rfl, I9⟩
          exact reti_ok X hr hlk rfl (dk rfl) (refR_tr ⟨rfl, I9⟩ (FQ.trans (Fr.ext X3)) (by unfold aAlike; dsimp only; rw [if_pos (okI_t hj1 (by decide)), if_pos (okI_t hj2 (by decide)), if_pos (okI_t hj3 (by decide)), if_pos (in_how hj4), xI_n (by omega), xI_n (by omega), xI_n (by omega), getD_of f1, getD_of f2]; rw [erw, toldS_some, ← er]; exact becA_short hA _ _)) (Nat.le_of_ble_eq_true rfl) (Nat.le_of_ble_eq_true rfl)
        have endN : ∀ (h3 : AH) (l : List (Nat × Value)), lsel l [3, 0] = [(3, vI j3), (0, .ref o)] → Ext h2 h3 → (∃ x, x < 8 ∧ 16 < (E9 x).length) → WR p la e (rmD 87 8600 102600) s m args below meth c D cA B0 6 (refR o S A kn (aAlike (nI j1) (nI j2) (nI j3) (nI j4) (sl, an, da, dr)) h) 129 l [.null] h3 8500 102500 := by
          intro h3 l hl X3 hlg
          refine WS.sel [3, 0] hl ?_
          have M3 := M2.ext X3
          repeat refine fst1_ok X (dk rfl) rfl ?_
          refine br_ok X (dk rfl) rfl (show ((133 : Nat) : Int) + 10 = ((143 : Nat) : Int) from rfl) (fun q => absurd q (fun z => z)) (fun _ => ?_)
          repeat refine fst1_ok X (dk rfl) rfl ?_
          refine no_ok X E M3 ⟨Nat.le_of_ble_eq_true rfl, Nat.le_of_ble_eq_true rfl⟩ ⟨Nat.le_of_ble_eq_true rfl, Nat.le_of_ble_eq_true rfl⟩ (Nat.le_of_ble_eq_true rfl) (dk rfl) (fun h9 M9 F9 => ?_)
          refine br_ok X (dk rfl) rfl (show ((140 : Nat) : Int) + 10 = ((150 : Nat) : Int) from rfl) (fun _ => ?_) (fun q => absurd trivial q)
          exact reti_ok X hr hlk rfl (dk rfl) (refR_ok M9 ((FQ.trans (Fr.ext X3)).trans F9) (by unfold aAlike; dsimp only; rw [if_pos (okI_t hj1 (by decide)), if_pos (okI_t hj2 (by decide)), if_pos (okI_t hj3 (by decide)), if_pos (in_how hj4), xI_n (by omega), xI_n (by omega), xI_n (by omega), getD_of f1, getD_of f2]; rw [erw, toldS_some]; exact becA_long hlg _ _)) (Nat.le_of_ble_eq_true rfl) (Nat.le_of_ble_eq_true rfl)
        refine br_ok X (dk rfl) rfl (show ((68 : Nat) : Int) + 9 = ((77 : Nat) : Int) from rfl) (fun _ => ?_) (fun q => absurd bI_t q)
        repeat refine fst1_ok X (dk rfl) rfl ?_
        refine br_ok X (dk rfl) rfl (show ((79 : Nat) : Int) + 28 = ((107 : Nat) : Int) from rfl) (fun hx => ?_) (fun hx => ?_)
        · obtain ⟨hc1, hc2⟩ := (ac5 (hcan rfl)).2 hx
          subst hc1
          subst hc2
          obtain ⟨hY, z1, z2⟩ := BY_of ⟨w1, n1⟩ ⟨w2, n2⟩
          refine new_ok X nc10_165 (dk rfl) (Nat.le_of_ble_eq_true rfl) (Nat.le_of_ble_eq_true rfl) (fun u hu hBu => ?_)
          have XU := Ext.new hu ((10, [Value.null, .null, .null, .int 0, .int 0]) : AC)
          repeat refine fst1_ok X (dk rfl) rfl ?_
          refine getf_ok X flX10_11 (dk rfl) (XU _ _ M2.obj) rfl ?_
          refine fst1_ok X (dk rfl) rfl ?_
          refine ldr_ok X (dk rfl) (XU _ _ (XQ _ _ s2)) e1 (by omega) ?_
          repeat refine fst1_ok X (dk rfl) rfl ?_
          refine getf_ok X flX10_11 (dk rfl) (XU _ _ M2.obj) rfl ?_
          refine fst1_ok X (dk rfl) rfl ?_
          refine ldr_ok X (dk rfl) (XU _ _ (XQ _ _ s2)) e2 (by omega) ?_
          refine callI_ok (av := [.ref b1, .ref b2]) (r := [.ref u]) X E (c_init8 _ hY (hup_self _ _ _) (by rw [z1]; exact XU _ _ (XQ _ _ g1)) (by rw [z2]; exact XU _ _ (XQ _ _ g2))) lkX8_init mlX10_167 lmX8_init rfl ⟨Nat.le_of_ble_eq_true rfl, Nat.le_of_ble_eq_true rfl⟩ ⟨Nat.le_of_ble_eq_true rfl, Nat.le_of_ble_eq_true rfl⟩ (Nat.le_of_ble_eq_true rfl) (dk rfl) ?_
          rintro v h3 ⟨rfl, ⟨T, O, Q, ts, of', pt, can, M3, hI⟩, F3⟩
          have X3 : Ext h2 h3 := fun b c e => F3 b c (fun z => by rw [z, hu] at e; cases e) (XU _ _ e)
          obtain ⟨ts9, of9, pt9, hI9⟩ := (hcan rfl).2 hx
          obtain ⟨-, -, rfl⟩ := InP_det hI hI9
          obtain ⟨hP, rr, C9, N9, hA, hC9, hN9⟩ := ansE hI M3.2.2.2.2.2.2.2.1
          refine callV_ok (ci := 10) (T := TX8) (N := 5) (av := []) (r := []) X E (c_answer8 h3 M3 hP hA) lkX8_answer mlX10_168 lmX8_answer lpX8_answer ⟨Nat.le_of_ble_eq_true rfl, Nat.le_of_ble_eq_true rfl⟩ ⟨by show 0 + 37 + 1 + 36 + C9 ≤ 8600; omega, by show 0 + 709 + 5 + 704 + N9 ≤ 102600; omega⟩ rfl M3.1 (Nat.le_of_ble_eq_true rfl) (dk rfl) ?_
          rintro v h4 hv
          refine WS.widen (k' := 8500) (n' := 102500) (by show 0 + 37 + 1 + 36 + C9 ≤ 8500; omega) (by show 0 + 709 + 5 + 704 + N9 ≤ 102500; omega) ?_
          obtain ⟨mk9, ak9⟩ := (hI.can hY).1 rfl
          have hrr : (rr = none ∧ ∃ x, x < 8 ∧ 16 < (E9 x).length) ∨ rr = some ((List.range 8).map E9) := by
            unfold PEx at pe
            rw [if_neg hx] at pe
            obtain ⟨k9, S9, m1, m2, m3, m4⟩ := pe
            have hI2 := hI
            obtain ⟨rfl, x1, -⟩ := hI2
            exact an_rows hY.1 x1 (SKP.to m1 mk9 m3) mk9.1 ak9 m4 hA
          cases rr with
          | none =>
            obtain ⟨rfl, X4⟩ := hv
            exact endN h4 _ rfl (X3.trans X4) (hrr.elim (fun z => z.2) (fun z => by cases z))
          | some rows =>
            obtain ⟨hAO, q, rfl, hq, hBq, X4, nQ⟩ := hv
            exact endA h4 q rows _ rfl (X3.trans X4) nQ hAO (hrr.elim (fun z => by cases z.1) (fun z => Option.some.inj z)) (fun z => by rw [z] at hq; have := X3 _ _ (XQ _ _ s2); rw [hq] at this; cases this)
        · have hx0 : nI j4 = 0 := Decidable.not_not.mp hx
          obtain ⟨G, SSt, aC, aN, hG, eG, hS1, hAC, hAN, hC9, hN9⟩ := (ac5 (hcan rfl)).1 hx0
          obtain ⟨hY, z1, z2⟩ := BY_of ⟨w1, n1⟩ ⟨w2, n2⟩
          refine new_ok X nc10_157 (dk rfl) (by show 0 + C + 1 ≤ 8600; omega) (by show 0 + N + 3 ≤ 102600; omega) (fun u hu hBu => ?_)
          have XU := Ext.new hu ((11, [Value.null, .int 0, .int 0]) : AC)
          repeat refine fst1_ok X (dk rfl) rfl ?_
          refine getf_ok X flX10_11 (dk rfl) (XU _ _ M2.obj) rfl ?_
          refine fst1_ok X (dk rfl) rfl ?_
          refine ldr_ok X (dk rfl) (XU _ _ (XQ _ _ s2)) e1 (by omega) ?_
          repeat refine fst1_ok X (dk rfl) rfl ?_
          refine getf_ok X flX10_11 (dk rfl) (XU _ _ M2.obj) rfl ?_
          refine fst1_ok X (dk rfl) rfl ?_
          refine ldr_ok X (dk rfl) (XU _ _ (XQ _ _ s2)) e2 (by omega) ?_
          refine callI_ok (av := [.ref b1, .ref b2]) (r := [.ref u]) X E (c_stepsInit _ (hup_self _ _ _) (XU _ _ (XQ _ _ g1)) (XU _ _ (XQ _ _ g2)) ⟨w1, n1⟩ ⟨w2, n2⟩ hG) lkX9_init mlX10_159 lmX9_init rfl ⟨Nat.le_of_ble_eq_true rfl, Nat.le_of_ble_eq_true rfl⟩ ⟨by show 0 + C + 1 + (1 + G.2.2.2.1) ≤ 8600; omega, by show 0 + N + 3 + (8 + G.2.2.2.2) ≤ 102600; omega⟩ (Nat.le_of_ble_eq_true rfl) (dk rfl) ?_
          rintro v h3 ⟨rfl, ⟨St, hSt, M3⟩, F3⟩
          have X3 : Ext h2 h3 := fun b c e => F3 b c (fun z => by rw [z, hu] at e; cases e) (XU _ _ e)
          rw [eG] at M3
          refine callV_ok (ci := 11) (T := TX9) (N := 3) (av := []) (r := []) X E (c_stAnswer h3 M3 (fun k _ => whE hY.1 hS1 k)) lkX9_answer mlX10_162 lmX9_answer lpX9_answer ⟨Nat.le_of_ble_eq_true rfl, Nat.le_of_ble_eq_true rfl⟩ ⟨by show 0 + C + 1 + (1 + G.2.2.2.1) + (1 + 8 * (1 + 64 * (cnS (y1 ++ y2) SSt + 1))) ≤ 8600; rw [← hAC]; omega, by show 0 + N + 3 + (8 + G.2.2.2.2) + (8 + 8 * (1 + 1280 * (cnS (y1 ++ y2) SSt + 1))) ≤ 102600; rw [← hAN]; omega⟩ rfl M3.1 (Nat.le_of_ble_eq_true rfl) (dk rfl) ?_
          rintro v h4 hv
          refine WS.widen (k' := 8500) (n' := 102500) (by show 0 + C + 1 + (1 + G.2.2.2.1) + (1 + 8 * (1 + 64 * (cnS (y1 ++ y2) SSt + 1))) ≤ 8500; rw [← hAC]; omega) (by show 0 + N + 3 + (8 + G.2.2.2.2) + (8 + 8 * (1 + 1280 * (cnS (y1 ++ y2) SSt + 1))) ≤ 102500; rw [← hAN]; omega) ?_
          have hwo : ∀ {i C N : Nat} {r : List Nat}, i < 8 → whF 161 (smO (y1 ++ y2) SSt) [i] 0 = some (r, C, N) → ((E9 i).length ≤ 16 → r = E9 i) ∧ (16 < (E9 i).length → 16 < r.length) := fun {i C N r} hi hw => by
            unfold PEx at pe
            rw [if_pos hx0] at pe
            obtain ⟨G2, S2, b1, b2, b3, b4, b5, b6, b7⟩ := pe
            rw [hG] at b1
            cases b1
            rw [eG.symm.trans b6] at hw
            exact wh_one hY.1 b4 b5 b7 hi hw
          rcases hv with ⟨rfl, X4, i9, hi9, r9, c9, n9, hw9, hl9⟩ | ⟨rows, hwr, hAO, q, rfl, hq, hBq, X4, nQ⟩
          · refine br_ok X (dk rfl) rfl (show ((104 : Nat) : Int) + 25 = ((129 : Nat) : Int) from rfl) (fun _ => ?_) (fun q => absurd trivial q)
            exact endN h4 _ rfl (X3.trans X4) ⟨i9, hi9, by
              rcases Nat.lt_or_ge 16 (E9 i9).length with z | z
              · exact z
              · have := (hwo hi9 hw9).1 z
                rw [this] at hl9
                exact hl9⟩
          · refine br_ok X (dk rfl) rfl (show ((104 : Nat) : Int) + 25 = ((129 : Nat) : Int) from rfl) (fun _ => ?_) (fun q => absurd trivial q)
            exact endA h4 q rows _ rfl (X3.trans X4) nQ hAO (List.ext_getElem? (fun k => by
              rcases Nat.lt_or_ge k 8 with c | c
              · obtain ⟨r, c1, n1', e1', w1'⟩ := hwr k c
                have l16 := (hAO.2 r (List.mem_of_getElem? e1')).2
                obtain ⟨u1, u2⟩ := hwo c w1'
                have : (E9 k).length ≤ 16 := by
                  rcases Nat.lt_or_ge 16 (E9 k).length with z | z
                  · have := u2 z
                    omega
                  · exact z
                rw [e1', List.getElem?_map, List.getElem?_range c, u1 this]
                rfl
              · rw [List.getElem?_eq_none (by rw [hAO.1]; exact c), List.getElem?_eq_none (by rw [List.length_map, List.length_range]; exact c)])) (fun z => by rw [z] at hq; have := X3 _ _ (XQ _ _ s2); rw [hq] at this; cases this)
  have mid1 : ∀ t1 : Bool, (t1 = false → inN 6 x1 ∧ inN 6 x2 ∧ inN 3 x3) → (t1 = true → ¬ (inN 6 x1 ∧ inN 6 x2 ∧ inN 3 x3)) → WR p la e (rmD 87 8600 102600) s m args below meth c D cA B0 6 (refR o S A kn (aAlike x1 x2 x3 x4 (sl, an, da, dr)) h) 27 (lv_args 0 [.ref o, .int x1, .int x2, .int x3, .int x4]) [.int (bI t1), .ref o] h 0 0 := by
    intro t1 ht1 hn1
    have mid2 := fun t2 => mid2 t1 t2 ht1 hn1
    iterate 1 refine fst1_ok X (dk rfl) rfl ?_
    have mid2T : ¬ inN 2 x4 → ∀ l : List (Nat × Value), l = (lv_args 0 [.ref o, .int x1, .int x2, .int x3, .int x4]) → WR p la e (rmD 87 8600 102600) s m args below meth c D cA B0 6 (refR o S A kn (aAlike x1 x2 x3 x4 (sl, an, da, dr)) h) 38 l [.int (bI t1), .ref o] h 0 0 := by
      intro hx l hl
      rw [hl]
      refine fst1_ok X (dk rfl) rfl ?_
      refine br_ok X (dk rfl) rfl (show ((39 : Nat) : Int) + 4 = ((43 : Nat) : Int) from rfl) (fun _ => ?_) (fun q => absurd trivial q)
      exact mid2 true (fun z => by cases z) (fun _ => hx)
    refine br_ok X (dk rfl) rfl (show ((29 : Nat) : Int) + 9 = ((38 : Nat) : Int) from rfl) (fun c0 => mid2T (fun z => inN_pos z (by decide) c0) _ rfl) (fun c1 => ?_)
    iterate 2 refine fst1_ok X (dk rfl) rfl ?_
    refine br_ok X (dk rfl) rfl (show ((35 : Nat) : Int) + 7 = ((42 : Nat) : Int) from rfl) (fun c2 => ?_) (fun c0 => mid2T (fun z => c0 (by rw [show Int32.ofInt 1 = nI 1 by decide +kernel]; exact inN_leN z (by decide))) _ rfl)
    refine fst1_ok X (dk rfl) rfl ?_
    exact mid2 false (fun _ => inN_le (K := 1) (by omega) c1 (by rw [show nI 1 = Int32.ofInt 1 by decide +kernel]; exact c2)) (fun z => by cases z)
  iterate 2 refine fst1_ok X (dk rfl) rfl ?_
  refine isSlot_ok X E mlX10_95 ⟨Nat.le_of_ble_eq_true rfl, Nat.le_of_ble_eq_true rfl⟩ ⟨Nat.le_of_ble_eq_true rfl, Nat.le_of_ble_eq_true rfl⟩ (Nat.le_of_ble_eq_true rfl) (dk rfl) (fun mid1b0 mid1h0 mid1n0 => ?_)
  cases mid1b0 with
  | false =>
    refine br_ok X (dk rfl) rfl (show ((5 : Nat) : Int) + 17 = ((22 : Nat) : Int) from rfl) (fun _ => ?_) (fun q => absurd bI_f' q)
    refine fst1_ok X (dk rfl) rfl ?_
    refine br_ok X (dk rfl) rfl (show ((23 : Nat) : Int) + 4 = ((27 : Nat) : Int) from rfl) (fun _ => ?_) (fun q => absurd trivial q)
    exact mid1 true (fun z => by cases z) (fun _ hh => absurd (hh.1) (mid1n0 rfl))
  | true =>
    refine br_ok X (dk rfl) rfl (show ((5 : Nat) : Int) + 17 = ((22 : Nat) : Int) from rfl) (fun q => absurd q bI_t) (fun _ => ?_)
    iterate 1 refine fst1_ok X (dk rfl) rfl ?_
    refine isSlot_ok X E mlX10_95 ⟨Nat.le_of_ble_eq_true rfl, Nat.le_of_ble_eq_true rfl⟩ ⟨Nat.le_of_ble_eq_true rfl, Nat.le_of_ble_eq_true rfl⟩ (Nat.le_of_ble_eq_true rfl) (dk rfl) (fun mid1b1 mid1h1 mid1n1 => ?_)
    cases mid1b1 with
    | false =>
      refine br_ok X (dk rfl) rfl (show ((12 : Nat) : Int) + 10 = ((22 : Nat) : Int) from rfl) (fun _ => ?_) (fun q => absurd bI_f' q)
      refine fst1_ok X (dk rfl) rfl ?_
      refine br_ok X (dk rfl) rfl (show ((23 : Nat) : Int) + 4 = ((27 : Nat) : Int) from rfl) (fun _ => ?_) (fun q => absurd trivial q)
      exact mid1 true (fun z => by cases z) (fun _ hh => absurd (hh.2.1) (mid1n1 rfl))
    | true =>
      refine br_ok X (dk rfl) rfl (show ((12 : Nat) : Int) + 10 = ((22 : Nat) : Int) from rfl) (fun q => absurd q bI_t) (fun _ => ?_)
      iterate 1 refine fst1_ok X (dk rfl) rfl ?_
      refine isAnswer_ok X E mlX10_135 ⟨Nat.le_of_ble_eq_true rfl, Nat.le_of_ble_eq_true rfl⟩ ⟨Nat.le_of_ble_eq_true rfl, Nat.le_of_ble_eq_true rfl⟩ (Nat.le_of_ble_eq_true rfl) (dk rfl) (fun mid1b2 mid1h2 mid1n2 => ?_)
      cases mid1b2 with
      | false =>
        refine br_ok X (dk rfl) rfl (show ((19 : Nat) : Int) + 7 = ((26 : Nat) : Int) from rfl) (fun q => absurd q bI_f) (fun _ => ?_)
        refine fst1_ok X (dk rfl) rfl ?_
        refine br_ok X (dk rfl) rfl (show ((23 : Nat) : Int) + 4 = ((27 : Nat) : Int) from rfl) (fun _ => ?_) (fun q => absurd trivial q)
        exact mid1 true (fun z => by cases z) (fun _ hh => absurd (hh.2.2) (mid1n2 rfl))
      | true =>
        refine br_ok X (dk rfl) rfl (show ((19 : Nat) : Int) + 7 = ((26 : Nat) : Int) from rfl) (fun _ => ?_) (fun q => absurd bI_t q)
        refine fst1_ok X (dk rfl) rfl ?_
        exact mid1 false (fun _ => ⟨mid1h0 rfl, mid1h1 rfl, mid1h2 rfl⟩) (fun z => by cases z)
end E4
