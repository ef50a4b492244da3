/-! depth: how many terms a place lies in (printed by wip/q/genQ4.py) -/
/-- how many numbers below n -/
def ctF (P : Nat → Bool) : Nat → Nat
  | 0 => 0
  | n + 1 => ctF P n + (if P n = true then 1 else 0)
theorem ctF_congr {P Q : Nat → Bool} : ∀ {n : Nat}, (∀ k, k < n → P k = Q k) → ctF P n = ctF Q n
  | 0, _ => rfl
  | n + 1, h => by
    show ctF P n + (if P n = true then 1 else 0) = ctF Q n + (if Q n = true then 1 else 0)
    rw [ctF_congr (fun k hk => h k (by omega)), h n (by omega)]
theorem ctF_none {P : Nat → Bool} : ∀ {n : Nat}, (∀ k, k < n → P k = false) → ctF P n = 0
  | 0, _ => rfl
  | n + 1, h => by
    show ctF P n + (if P n = true then 1 else 0) = 0
    rw [ctF_none (fun k hk => h k (by omega)), h n (by omega)]
    rfl
theorem ctF_le (P : Nat → Bool) : ∀ n : Nat, ctF P n ≤ n
  | 0 => Nat.le_refl _
  | n + 1 => by
    show ctF P n + (if P n = true then 1 else 0) ≤ n + 1
    have := ctF_le P n
    split <;> omega
theorem ctF_more {P Q : Nat → Bool} {p : Nat} : ∀ {n : Nat}, p < n → P p = true → Q p = false → (∀ k, k < n → k ≠ p → P k = Q k) → ctF P n = ctF Q n + 1
  | 0, h, _, _, _ => absurd h (Nat.not_lt_zero _)
  | n + 1, h, hP, hQ, he => by
    show ctF P n + (if P n = true then 1 else 0) = ctF Q n + (if Q n = true then 1 else 0) + 1
    by_cases e : p = n
    · subst e
      rw [ctF_congr (fun k hk => he k (by omega) (by omega)), hP, hQ]
      simp
    · rw [ctF_more (n := n) (by omega) hP hQ (fun k hk => he k (by omega)), he n (by omega) (fun z => e z.symm)]
      omega
theorem ctF_or {P Q R : Nat → Bool} : ∀ {n : Nat}, (∀ k, k < n → P k = (Q k || R k) ∧ (Q k && R k) = false) → ctF P n = ctF Q n + ctF R n
  | 0, _ => rfl
  | n + 1, h => by
    show ctF P n + (if P n = true then 1 else 0) = ctF Q n + (if Q n = true then 1 else 0) + (ctF R n + (if R n = true then 1 else 0))
    obtain ⟨h1, h2⟩ := h n (by omega)
    rw [ctF_or (fun k hk => h k (by omega)), h1]
    cases hq : Q n <;> cases hr : R n
    · simp
    · simp
      omega
    · simp
      omega
    · rw [hq, hr] at h2
      cases h2
def mxF (g : Nat → Nat) : Nat → Nat
  | 0 => 0
  | n + 1 => max (mxF g n) (g n)
theorem mxF_congr {g g' : Nat → Nat} : ∀ {n : Nat}, (∀ k, k < n → g k = g' k) → mxF g n = mxF g' n
  | 0, _ => rfl
  | n + 1, h => by
    show max (mxF g n) (g n) = max (mxF g' n) (g' n)
    rw [mxF_congr (fun k hk => h k (by omega)), h n (by omega)]
theorem mxF_add (g : Nat → Nat) (a : Nat) : ∀ b : Nat, mxF g (a + b) = max (mxF g a) (mxF (fun j => g (a + j)) b)
  | 0 => (Nat.max_eq_left (Nat.zero_le _)).symm
  | b + 1 => by
    show max (mxF g (a + b)) (g (a + b)) = max (mxF g a) (max (mxF (fun j => g (a + j)) b) (g (a + b)))
    rw [mxF_add g a b, Nat.max_assoc]
theorem mxF_one (g : Nat → Nat) : ∀ n : Nat, max 1 (mxF (fun j => g j + 1) n) = mxF g n + 1
  | 0 => rfl
  | n + 1 => by
    show max 1 (max (mxF (fun j => g j + 1) n) (g n + 1)) = max (mxF g n) (g n) + 1
    have := mxF_one g n
    omega
theorem mxF_le {g : Nat → Nat} {b : Nat} : ∀ {n : Nat}, (∀ k, k < n → g k ≤ b) → mxF g n ≤ b
  | 0, _ => Nat.zero_le _
  | n + 1, h => Nat.max_le.mpr ⟨mxF_le (fun k hk => h k (by omega)), h n (by omega)⟩
/-- of the terms that begin at a place p or later: how many hold the place i -/
def lv (xs : List Nat) (p i : Nat) : Nat := ctF (fun k => decide (p ≤ k ∧ i < k + tl xs k)) (i + 1)
def lvM (xs : List Nat) (p n : Nat) : Nat := mxF (fun j => lv xs p (p + j)) n
theorem lv_le (xs : List Nat) (p i : Nat) : lv xs p i ≤ i + 1 := ctF_le _ _
/-- what begins within a term ends within it -/
theorem nested {xs : List Nat} {k t i : Nat} (hk : endL 1 (xs.drop k) = some t) (h1 : k ≤ i) (h2 : i < k + t) : endL 1 (xs.drop i) = some (tl xs i) ∧ 0 < tl xs i ∧ i + tl xs i ≤ k + t := by
  have hle := endL_le hk
  have hs := endL_take _ _ _ hk
  have hl : ((xs.drop k).take t).length = t := by rw [List.length_take]; omega
  obtain ⟨u, hu⟩ := endL_at ((xs.drop k).take t) 1 (i - k) (by rw [hl]; exact hs) (by omega)
  have ule := endL_le hu
  rw [List.length_drop, hl] at ule
  have e : xs.drop i = ((xs.drop k).take t).drop (i - k) ++ (xs.drop k).drop t := by
    rw [← List.drop_append_of_le_length (by omega), List.take_append_drop, List.drop_drop]
    congr 1
    omega
  have h := endL_app _ ((xs.drop k).drop t) _ _ hu
  rw [← e] at h
  have et : tl xs i = u := by unfold tl; rw [h]; rfl
  exact ⟨by rw [et]; exact h, by rw [et]; exact endL_pos (n := 0) hu, by omega⟩
theorem lv_in {xs : List Nat} {q t i : Nat} (hcl : ∀ k, q ≤ k → k < q + t → k + tl xs k ≤ q + t) (hi : q + t ≤ i) : lv xs q i = lv xs (q + t) i := ctF_congr (fun k _ => by
  by_cases h : q + t ≤ k
  · rw [Bool.eq_iff_iff, decide_eq_true_iff, decide_eq_true_iff]
    constructor <;> rintro ⟨a, b⟩ <;> exact ⟨by omega, b⟩
  · by_cases h2 : q ≤ k
    · have := hcl k h2 (by omega)
      rw [decide_eq_false (fun z => by omega), decide_eq_false (fun z => by omega)]
    · rw [decide_eq_false (fun z => by omega), decide_eq_false (fun z => by omega)])
theorem lvM_app {xs : List Nat} {q t u : Nat} (hcl : ∀ k, q ≤ k → k < q + t → k + tl xs k ≤ q + t) : lvM xs q (t + u) = max (lvM xs q t) (lvM xs (q + t) u) := by
  unfold lvM
  rw [mxF_add]
  congr 1
  exact mxF_congr (fun j _ => by rw [← Nat.add_assoc]; exact lv_in hcl (by omega))
/-- a term is one deeper than what is within it -/
theorem lvM_head {xs : List Nat} {p t : Nat} (hp : endL 1 (xs.drop p) = some (t + 1)) : lvM xs p (t + 1) = lvM xs (p + 1) t + 1 := by
  have tp : tl xs p = t + 1 := tl_of hp
  have h0 : lv xs p p = 1 := by
    show ctF (fun k => decide (p ≤ k ∧ p < k + tl xs k)) p + (if decide (p ≤ p ∧ p < p + tl xs p) = true then 1 else 0) = 1
    rw [ctF_none (fun k hk => decide_eq_false (fun z => by omega)), if_pos (decide_eq_true ⟨Nat.le_refl _, by omega⟩)]
  have h1 : ∀ j, j < t → lv xs p (p + 1 + j) = lv xs (p + 1) (p + 1 + j) + 1 := fun j hj => ctF_more (p := p) (by omega) (decide_eq_true ⟨Nat.le_refl _, by omega⟩) (decide_eq_false (fun z => by omega)) (fun k _ hk => by
    rw [Bool.eq_iff_iff, decide_eq_true_iff, decide_eq_true_iff]
    constructor <;> rintro ⟨a, b⟩ <;> exact ⟨by omega, b⟩)
  show mxF (fun j => lv xs p (p + j)) (t + 1) = _
  rw [Nat.add_comm t 1, mxF_add]
  have e1 : mxF (fun j => lv xs p (p + j)) 1 = 1 := by
    show max 0 (lv xs p (p + 0)) = 1
    rw [Nat.add_zero, h0]
    rfl
  rw [e1, mxF_congr (g' := fun j => lv xs (p + 1) (p + 1 + j) + 1) (fun j hj => by rw [← Nat.add_assoc]; exact h1 j hj)]
  exact mxF_one _ t
/-- how many terms end with a place -/
def cbN (xs : List Nat) (i : Nat) : Nat := ctF (fun k => decide (k + tl xs k = i + 1)) i
theorem lv_step {xs : List Nat} (h : TW xs) {i x : Nat} (hx : xs[i]? = some x) (hi : i + 1 < xs.length) : (0 < pF x → lv xs 0 (i + 1) = lv xs 0 i + 1) ∧ (pF x = 0 → lv xs 0 (i + 1) + cbN xs i = lv xs 0 i) := by
  have e0 : endL 1 (xs.drop 0) = some xs.length := by rw [List.drop_zero]; exact h.1
  obtain ⟨a1, a2, a3⟩ := nested e0 (i := i) (Nat.zero_le _) (by omega)
  obtain ⟨b1, b2, b3⟩ := nested e0 (i := i + 1) (Nat.zero_le _) (by omega)
  have et : tl xs i = ((endL (pF x) (xs.drop (i + 1))).map (· + 1)).getD 0 := by
    unfold tl
    rw [drop_cons hx]
    show ((endL (0 + pF x) (xs.drop (i + 1))).map (· + 1)).getD 0 = _
    rw [Nat.zero_add]
  have f1 : lv xs 0 (i + 1) = ctF (fun k => decide (0 ≤ k ∧ i + 1 < k + tl xs k)) (i + 1) + 1 := by
    show ctF _ (i + 1) + (if decide (0 ≤ i + 1 ∧ i + 1 < i + 1 + tl xs (i + 1)) = true then 1 else 0) = _
    rw [if_pos (decide_eq_true ⟨Nat.zero_le _, by omega⟩)]
  constructor
  · intro hp
    have t2 : 2 ≤ tl xs i := by
      cases e : endL (pF x) (xs.drop (i + 1)) with
      | none => rw [e] at et; simp at et; omega
      | some K =>
        rw [e] at et
        have : 0 < K := by
          obtain ⟨m, hm⟩ : ∃ m, pF x = m + 1 := ⟨pF x - 1, by omega⟩
          rw [hm] at e
          exact endL_pos e
        simp at et
        omega
    rw [f1]
    congr 1
    exact ctF_congr (fun k hk => by
      rw [Bool.eq_iff_iff, decide_eq_true_iff, decide_eq_true_iff]
      obtain ⟨c1, c2, c3⟩ := nested e0 (i := k) (Nat.zero_le _) (by omega)
      constructor
      · rintro ⟨a, b⟩
        exact ⟨a, by omega⟩
      · rintro ⟨a, b⟩
        obtain ⟨d1, d2, d3⟩ := nested c1 (i := i) (by omega) (by omega)
        exact ⟨a, by omega⟩)
  · intro hp
    have t1 : tl xs i = 1 := by
      have z0 : ∀ r : List Nat, endL 0 r = some 0 := fun r => by cases r <;> rfl
      rw [hp, z0] at et
      exact et
    have g1 : lv xs 0 i = ctF (fun k => decide (0 ≤ k ∧ i < k + tl xs k)) i + 1 := by
      show ctF _ i + (if decide (0 ≤ i ∧ i < i + tl xs i) = true then 1 else 0) = _
      rw [if_pos (decide_eq_true ⟨Nat.zero_le _, by omega⟩)]
    have g2 : ctF (fun k => decide (0 ≤ k ∧ i + 1 < k + tl xs k)) (i + 1) = ctF (fun k => decide (0 ≤ k ∧ i + 1 < k + tl xs k)) i := by
      show ctF _ i + (if decide (0 ≤ i ∧ i + 1 < i + tl xs i) = true then 1 else 0) = _
      rw [if_neg (fun z => by have := of_decide_eq_true z; omega)]
      rfl
    have g3 : ctF (fun k => decide (0 ≤ k ∧ i < k + tl xs k)) i = ctF (fun k => decide (0 ≤ k ∧ i + 1 < k + tl xs k)) i + cbN xs i := ctF_or (fun k hk => by
      constructor
      · rw [Bool.eq_iff_iff, Bool.or_eq_true, decide_eq_true_iff, decide_eq_true_iff, decide_eq_true_iff]
        omega
      · by_cases z : i + 1 < k + tl xs k
        · rw [decide_eq_false (show ¬ k + tl xs k = i + 1 by omega), Bool.and_false]
        · rw [decide_eq_false (fun q => z q.2), Bool.false_and])
    rw [f1, g1, g2, g3]
    omega
def aDepth (x1 : Int32) (st : ST) : RS := if okI 6 x1 then ((0, nI (lvM (st.1.getD (xI x1) []) 0 (st.1.getD (xI x1) []).length)), st) else ((1, 0), st)
section Q16
variable {la : Launch} {D : va_G} {cA : Nat → ClassId} {B0 pa : Nat} {B Q P : Nat → Nat} {ox : Nat} {kn d r : Int32} {F : Nat → TC}
set_option maxHeartbeats 16000000 in
theorem s5_closedBehind (h : AH) (S : TS B Q h F) {i : Nat} (hi : i < 52) {ns : List Nat} (hN : TN (F i) ns) (wt : TW ns) (ln : ns.length ≤ 16) {z : Nat} (hz : z < ns.length) : CT la D cA B0 pa yX5_closedBehind cX5_closedBehind 4 (some .int) (rmD 2 0 0) [.ref (B i), vI z] h (RP (vI (cbN ns z)) h) := by
  refine CT_of (by decide +kernel) (Nat.le_of_ble_eq_true rfl) ?_
  intro p e s m args below meth c X E hr hlk hnm
  have dk : ∀ {pc : Nat} {q : Instr × Nat}, lkd DX5_closedBehind pc = some q → decode cX5_closedBehind pc = .ok q := lkd_ok DX5_closedBehind_ok
  have loop : ∀ (d k : Nat), d = z - k → k ≤ z → ∀ l : List (Nat × Value), lsel l [3, 2, 1, 0] = [(3, vI k), (2, vI (ctF (fun k => decide (k + tl ns k = z + 1)) k)), (1, vI z), (0, .ref (B i))] → WR p la e (rmD 2 0 0) s m args below meth c D cA B0 4 (RP (vI (cbN ns z)) h) 4 l [] h 0 0 := by
    intro d
    induction d with
    | zero =>
      intro k hd hk l hl
      have hk2 : k = z := by omega
      subst hk2
      refine WS.sel [3, 2, 1, 0] hl ?_
      iterate 2 refine fst1_ok X (dk rfl) rfl ?_
      refine br_ok X (dk rfl) rfl (show ((6 : Nat) : Int) + 23 = ((29 : Nat) : Int) from rfl) (fun _ => ?_) (fun q => absurd (Int32.le_refl _) q)
      refine fst1_ok X (dk rfl) rfl ?_
      exact reti_ok X hr hlk rfl (dk rfl) (⟨rfl, rfl⟩) (Nat.le_of_ble_eq_true rfl) (Nat.le_of_ble_eq_true rfl)
    | succ d ih =>
      intro k hd hk l hl
      have f3 : Value.int (nI k + Int32.ofInt 1) = vI (k + 1) := congrArg Value.int (by rw [nI_1', nI_add])
      obtain ⟨k1, k2, k3⟩ := nested (xs := ns) (k := 0) (t := ns.length) (i := k) (by rw [List.drop_zero]; exact wt.1) (Nat.zero_le _) (by omega)
      refine WS.sel [3, 2, 1, 0] hl ?_
      iterate 2 refine fst1_ok X (dk rfl) rfl ?_
      refine br_ok X (dk rfl) rfl (show ((6 : Nat) : Int) + 23 = ((29 : Nat) : Int) from rfl) (fun q => absurd q (nI_ge (by omega) (by omega))) (fun _ => ?_)
      iterate 2 refine fst1_ok X (dk rfl) rfl ?_
      refine callVR_ok (ci := 7) (T := TX5) (N := 3) (av := [vI k]) (r := []) X E (s5_endOf h S hi hN k1) lkX5_endOf mlX5_62 lmX5_endOf lpX5_endOf ⟨Nat.le_of_ble_eq_true rfl, Nat.le_of_ble_eq_true rfl⟩ ⟨Nat.le_of_ble_eq_true rfl, Nat.le_of_ble_eq_true rfl⟩ rfl ⟨_, (S i hi).2.1⟩ (Nat.le_of_ble_eq_true rfl) (dk rfl) ?_
      rintro _ rfl
      iterate 3 refine fst1_ok X (dk rfl) rfl ?_
      rw [nI_1', nI_add]
      by_cases e1 : k + tl ns k = z + 1
      · have c4 : vI (ctF (fun k => decide (k + tl ns k = z + 1)) (k + 1)) = Value.int (nI (ctF (fun k => decide (k + tl ns k = z + 1)) k) + Int32.ofInt 1) := by
          have c5 : ctF (fun k => decide (k + tl ns k = z + 1)) (k + 1) = ctF (fun k => decide (k + tl ns k = z + 1)) k + 1 := by
            show ctF (fun k => decide (k + tl ns k = z + 1)) k + (if decide (k + tl ns k = z + 1) = true then 1 else 0) = _
            rw [if_pos (decide_eq_true e1)]
          rw [c5, nI_1', nI_add]
          rfl
        refine br_ok X (dk rfl) rfl (show ((17 : Nat) : Int) + 6 = ((23 : Nat) : Int) from rfl) (fun q => absurd (by rw [e1]) q) (fun _ => ?_)
        refine fst1_ok X (dk rfl) rfl ?_
        refine fst1_ok X (dk rfl) rfl ?_
        refine br_ok X (dk rfl) rfl (show ((26 : Nat) : Int) + (-22) = ((4 : Nat) : Int) from rfl) (fun _ => ?_) (fun q => absurd trivial q)
        refine WS.sel (l' := [(3, vI (k + 1)), (2, vI (ctF (fun k => decide (k + tl ns k = z + 1)) (k + 1))), (1, vI z), (0, .ref (B i))]) [3, 2, 1, 0] (by rw [← f3, c4]; rfl) ?_
        exact ih (k + 1) (by omega) (by omega) _ rfl
      · have c4 : vI (ctF (fun k => decide (k + tl ns k = z + 1)) (k + 1)) = vI (ctF (fun k => decide (k + tl ns k = z + 1)) k) := by
          have c5 : ctF (fun k => decide (k + tl ns k = z + 1)) (k + 1) = ctF (fun k => decide (k + tl ns k = z + 1)) k := by
            show ctF (fun k => decide (k + tl ns k = z + 1)) k + (if decide (k + tl ns k = z + 1) = true then 1 else 0) = _
            rw [if_neg (fun y => e1 (of_decide_eq_true y))]
            rfl
          rw [c5]
        refine br_ok X (dk rfl) rfl (show ((17 : Nat) : Int) + 6 = ((23 : Nat) : Int) from rfl) (fun _ => ?_) (fun q => absurd (fun y => e1 (nI_inj (by omega) (by omega) y)) q)
        refine fst1_ok X (dk rfl) rfl ?_
        refine br_ok X (dk rfl) rfl (show ((26 : Nat) : Int) + (-22) = ((4 : Nat) : Int) from rfl) (fun _ => ?_) (fun q => absurd trivial q)
        refine WS.sel (l' := [(3, vI (k + 1)), (2, vI (ctF (fun k => decide (k + tl ns k = z + 1)) (k + 1))), (1, vI z), (0, .ref (B i))]) [3, 2, 1, 0] (by rw [← f3, c4]; rfl) ?_
        exact ih (k + 1) (by omega) (by omega) _ rfl
  iterate 4 refine fst1_ok X (dk rfl) rfl ?_
  exact loop _ 0 rfl (Nat.zero_le _) _ rfl
set_option maxHeartbeats 32000000 in
theorem s5_levels (h : AH) (S : TS B Q h F) {i : Nat} (hi : i < 52) {ns : List Nat} (hN : TN (F i) ns) (wt : TW ns) (ln : ns.length ≤ 16) : CT la D cA B0 pa yX5_levels cX5_levels 4 (some .int) (rmD 3 0 0) [.ref (B i)] h (RP (vI (lvM ns 0 ns.length)) h) := by
  refine CT_of (by decide +kernel) (Nat.le_of_ble_eq_true rfl) ?_
  intro p e s m args below meth c X E hr hlk hnm
  have dk : ∀ {pc : Nat} {q : Instr × Nat}, lkd DX5_levels pc = some q → decode cX5_levels pc = .ok q := lkd_ok DX5_levels_ok
  have loop : ∀ (d k : Nat) (y : Int32), d = ns.length - k → k ≤ ns.length → (k < ns.length → y = nI (lv ns 0 k)) → ∀ l : List (Nat × Value), lsel l [3, 2, 1, 0] = [(3, vI k), (2, vI (max 1 (lvM ns 0 k))), (1, .int y), (0, .ref (B i))] → WR p la e (rmD 3 0 0) s m args below meth c D cA B0 4 (RP (vI (lvM ns 0 ns.length)) h) 6 l [] h 0 0 := by
    intro d
    induction d with
    | zero =>
      intro k y hd hk hy l hl
      have hk2 : k = ns.length := by omega
      subst hk2
      refine WS.sel [3, 2, 1, 0] hl ?_
      iterate 2 refine fst1_ok X (dk rfl) rfl ?_
      refine getf_ok X flX5_21 (dk rfl) (S i hi).2.1 rfl ?_
      rw [hN.len]
      refine br_ok X (dk rfl) rfl (show ((11 : Nat) : Int) + 39 = ((50 : Nat) : Int) from rfl) (fun _ => ?_) (fun q => absurd (Int32.le_refl _) q)
      refine fst1_ok X (dk rfl) rfl ?_
      have e1 : max 1 (lvM ns 0 ns.length) = lvM ns 0 ns.length := by
        have h0 := wt.pos
        obtain ⟨m, hm⟩ : ∃ m, ns.length = m + 1 := ⟨ns.length - 1, by omega⟩
        have := lvM_head (xs := ns) (p := 0) (t := m) (by rw [List.drop_zero, ← hm]; exact wt.1)
        rw [hm, this]
        omega
      rw [e1]
      exact reti_ok X hr hlk rfl (dk rfl) (⟨rfl, rfl⟩) (Nat.le_of_ble_eq_true rfl) (Nat.le_of_ble_eq_true rfl)
    | succ d ih =>
      intro k y hd hk hy l hl
      have f3 : Value.int (nI k + Int32.ofInt 1) = vI (k + 1) := congrArg Value.int (by rw [nI_1', nI_add])
      have hk0 : k < ns.length := by omega
      obtain ⟨x, hx⟩ : ∃ x, ns[k]? = some x := ⟨_, List.getElem?_eq_getElem hk0⟩
      have hxl := (hN.2 x (List.mem_of_getElem? hx)).lt
      have ey := hy hk0
      subst ey
      have l1 := lv_le ns 0 k
      have m1 : lvM ns 0 k ≤ 16 := mxF_le (fun j hj => by have := lv_le ns 0 (0 + j); omega)
      have em : lvM ns 0 (k + 1) = max (lvM ns 0 k) (lv ns 0 k) := by
        show max (mxF (fun j => lv ns 0 (0 + j)) k) (lv ns 0 (0 + k)) = _
        rw [Nat.zero_add]
        rfl
      have emx : max (max 1 (lvM ns 0 k)) (lv ns 0 k) = max 1 (lvM ns 0 (k + 1)) := by omega
      have st := fun hi => lv_step wt hx hi
      refine WS.sel [3, 2, 1, 0] hl ?_
      iterate 2 refine fst1_ok X (dk rfl) rfl ?_
      refine getf_ok X flX5_21 (dk rfl) (S i hi).2.1 rfl ?_
      rw [hN.len]
      refine br_ok X (dk rfl) rfl (show ((11 : Nat) : Int) + 39 = ((50 : Nat) : Int) from rfl) (fun q => absurd q (nI_ge (by omega) (by omega))) (fun _ => ?_)
      iterate 2 refine fst1_ok X (dk rfl) rfl ?_
      refine mmax_ok X (by omega) (by omega) mlX5_9 (dk rfl) (by decide) (Nat.le_of_ble_eq_true rfl) (Nat.le_of_ble_eq_true rfl) (Nat.le_of_ble_eq_true rfl) ?_
      rw [emx]
      iterate 4 refine fst1_ok X (dk rfl) rfl ?_
      refine callVR_ok (ci := 7) (T := TX5) (N := 3) (av := [vI k]) (r := [.int (nI (lv ns 0 k))]) X E (s5_letterAt h S hi (nI k)) lkX5_letterAt mlX5_29 lmX5_letterAt lpX5_letterAt ⟨Nat.le_of_ble_eq_true rfl, Nat.le_of_ble_eq_true rfl⟩ ⟨Nat.le_of_ble_eq_true rfl, Nat.le_of_ble_eq_true rfl⟩ rfl ⟨_, (S i hi).2.1⟩ (Nat.le_of_ble_eq_true rfl) (dk rfl) ?_
      rintro _ rfl
      rw [hN.lt hx (by omega)]
      refine callNR_ok (av := [vI x]) (r := [.int (nI (lv ns 0 k))]) X E (s6_partsOf h (x := x) (by rcases hN.2 x (List.mem_of_getElem? hx) with q | q <;> omega)) lkX6_partsOf mnX5_59 lsX6_partsOf ⟨Nat.le_of_ble_eq_true rfl, Nat.le_of_ble_eq_true rfl⟩ ⟨Nat.le_of_ble_eq_true rfl, Nat.le_of_ble_eq_true rfl⟩ (Nat.le_of_ble_eq_true rfl) (dk rfl) ?_
      rintro _ rfl
      have p20 : pF x < 2 ^ 20 := by unfold pF; split <;> omega
      by_cases e1 : pF x = 0
      · refine br_ok X (dk rfl) rfl (show ((29 : Nat) : Int) + 7 = ((36 : Nat) : Int) from rfl) (fun _ => ?_) (fun q => absurd (by rw [e1]; decide) q)
        iterate 2 refine fst1_ok X (dk rfl) rfl ?_
        refine callVR_ok (ci := 7) (T := TX5) (N := 3) (av := [vI k]) (r := [.int (nI (lv ns 0 k))]) X E (s5_closedBehind h S hi hN wt ln hk0) lkX5_closedBehind mlX5_65 lmX5_closedBehind lpX5_closedBehind ⟨Nat.le_of_ble_eq_true rfl, Nat.le_of_ble_eq_true rfl⟩ ⟨Nat.le_of_ble_eq_true rfl, Nat.le_of_ble_eq_true rfl⟩ rfl ⟨_, (S i hi).2.1⟩ (Nat.le_of_ble_eq_true rfl) (dk rfl) ?_
        rintro _ rfl
        refine fst1_ok X (dk rfl) rfl ?_
        iterate 2 refine fst1_ok X (dk rfl) rfl ?_
        refine fst1_ok X (dk rfl) rfl ?_
        refine br_ok X (dk rfl) rfl (show ((47 : Nat) : Int) + (-41) = ((6 : Nat) : Int) from rfl) (fun _ => ?_) (fun q => absurd trivial q)
        refine WS.sel (l' := [(3, vI (k + 1)), (2, vI (max 1 (lvM ns 0 (k + 1)))), (1, .int (nI (lv ns 0 k) + -(nI (cbN ns k)))), (0, .ref (B i))]) [3, 2, 1, 0] (by rw [← f3]; rfl) ?_
        exact ih (k + 1) _ (by omega) (by omega) (fun hi1 => by
          have := (st hi1).2 e1
          rw [← Int32.sub_eq_add_neg, nI_sub (by omega)]
          congr 1
          omega) _ rfl
      · refine br_ok X (dk rfl) rfl (show ((29 : Nat) : Int) + 7 = ((36 : Nat) : Int) from rfl) (fun q => absurd (nI_le0 (by omega) q) e1) (fun _ => ?_)
        refine fst1_ok X (dk rfl) rfl ?_
        refine br_ok X (dk rfl) rfl (show ((33 : Nat) : Int) + 9 = ((42 : Nat) : Int) from rfl) (fun _ => ?_) (fun q => absurd trivial q)
        iterate 2 refine fst1_ok X (dk rfl) rfl ?_
        refine fst1_ok X (dk rfl) rfl ?_
        refine br_ok X (dk rfl) rfl (show ((47 : Nat) : Int) + (-41) = ((6 : Nat) : Int) from rfl) (fun _ => ?_) (fun q => absurd trivial q)
        refine WS.sel (l' := [(3, vI (k + 1)), (2, vI (max 1 (lvM ns 0 (k + 1)))), (1, .int (nI (lv ns 0 k) + Int32.ofInt 1)), (0, .ref (B i))]) [3, 2, 1, 0] (by rw [← f3]; rfl) ?_
        exact ih (k + 1) _ (by omega) (by omega) (fun hi1 => by
          rw [(st hi1).1 (by omega), nI_1', nI_add]) _ rfl
  iterate 6 refine fst1_ok X (dk rfl) rfl ?_
  exact loop _ 0 _ rfl (Nat.zero_le _) (fun h0 => by
    have t0 : tl ns 0 = ns.length := by unfold tl; rw [List.drop_zero, wt.1]; rfl
    have : lv ns 0 0 = 1 := by
      show 0 + (if decide (0 ≤ 0 ∧ 0 < 0 + tl ns 0) = true then 1 else 0) = 1
      rw [if_pos (decide_eq_true ⟨Nat.le_refl _, by omega⟩)]
    rw [this, nI_1']) _ rfl
set_option maxHeartbeats 8000000 in
theorem s6_depth (h : AH) (hl : la.stackTraces = false) (Y : LYO B Q) {st : ST} (C0 : StC B Q P ox kn h st) (x1 : Int32) : CTX la D cA B0 pa yX6_depth cX6_depth 2 (some .int) (rmD 7 1 6) [.ref ox, .int x1] h (AP B Q P ox kn (aDepth x1 st) h) (AX (aDepth x1 st) st h) := by
  refine CTX_of (by decide +kernel) (Nat.le_of_ble_eq_true rfl) ?_
  intro p e s m args below meth c X E hr hlk hnm ht
  have dk : ∀ {pc : Nat} {q : Instr × Nat}, lkd DX6_depth pc = some q → decode cX6_depth pc = .ok q := lkd_ok DX6_depth_ok
  obtain ⟨F, C, H, O⟩ := id C0
  iterate 2 refine fst1_ok X (dk rfl) rfl ?_
  refine callVX_ok (ci := 8) (T := TX6) (N := 14) (av := [.int x1]) (r := []) X E ht hlk (s6_termOf h hl C x1) (fun E1 h1 z => AX.one (by unfold aDepth; rw [if_neg (by rw [okI_f z.2.1]; decide)]) ⟨z.1, z.2.2⟩) lkX6_termOf mlX6_69 lmX6_termOf lpX6_termOf ⟨Nat.le_of_ble_eq_true rfl, Nat.le_of_ble_eq_true rfl⟩ ⟨Nat.le_of_ble_eq_true rfl, Nat.le_of_ble_eq_true rfl⟩ rfl C.2.1 (Nat.le_of_ble_eq_true rfl) (dk rfl) ?_
  rintro _ h1 ⟨⟨j, hj, rfl, rfl⟩, eh⟩
  obtain rfl := eh.symm
  obtain ⟨nj, sj, ej, tj, wj, lj⟩ := H.slot O hj
  refine callVR_ok (ci := 7) (T := TX5) (N := 3) (av := []) (r := []) X E (s5_levels _ C.1 (i := j) (by omega) tj wj lj) lkX5_levels mlX6_201 lmX5_levels lpX5_levels ⟨Nat.le_of_ble_eq_true rfl, Nat.le_of_ble_eq_true rfl⟩ ⟨Nat.le_of_ble_eq_true rfl, Nat.le_of_ble_eq_true rfl⟩ rfl ⟨_, (C.1 j (by omega)).2.1⟩ (Nat.le_of_ble_eq_true rfl) (dk rfl) ?_
  rintro _ rfl
  have e : aDepth (nI j) st = ((0, nI (lvM nj 0 nj.length)), st) := by
    unfold aDepth
    rw [if_pos (okI_t hj (by decide)), xI_n (by omega), getD_of sj]
  rw [e]
  refine WRX.ret ?_
  exact reti_ok X hr hlk rfl (dk rfl) (⟨rfl, rfl, ⟨F, C, H, O⟩, FrC.rf _⟩) (Nat.le_of_ble_eq_true rfl) (Nat.le_of_ble_eq_true rfl)
end Q16
