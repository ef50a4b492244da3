/-! the bound on the steps, 8: the tables -/
def g1T : List Nat := [1, 1, 1, 1, 1, 2, 2, 3, 3, 4, 4, 5, 5, 6, 7, 7, 10, 10, 13, 13, 16, 16, 19, 22, 22, 31, 31, 40, 40, 49, 49, 58, 67, 67, 94, 94, 121, 121, 148, 148, 175, 202, 202, 283, 283, 364, 364, 445, 445, 526, 607, 607, 850, 850, 1093, 1093, 1336, 1336, 1579, 1822, 1822]
def g0T : List Nat := [0, 0, 0, 0, 0, 1, 1, 2, 2, 3, 3, 4, 4, 5, 5, 6, 7, 7, 10, 10, 13, 13, 16, 16, 19, 22, 22, 31, 31, 40, 40, 49, 49, 58, 67, 67, 94, 94, 121, 121, 148, 148, 175, 202, 202, 283, 283, 364, 364, 445, 445, 526, 607, 607, 850, 850, 1093, 1093, 1336, 1336, 1579]
def g1 (n : Nat) : Nat := g1T.getD n 9999
def g0 (n : Nat) : Nat := g0T.getD n 9999
def gchk (g : Nat → Nat) : Bool := (List.range 58).all fun n => (List.range ((57 - n) / 2 + 1)).all fun t => (List.range ((57 - n) / 2 + 1 - t)).all fun e => !(decide (1 ≤ t) && decide (e ≤ 2 * t)) || decide (t + (1 + e) * g n ≤ g (n + 2 * (t + e) + 3))
def gmon (g : Nat → Nat) : Bool := (List.range 60).all fun n => decide (g n ≤ g (n + 1))
set_option maxRecDepth 100000 in
theorem g1_chk : gchk g1 = true := by decide +kernel
set_option maxRecDepth 100000 in
theorem g0_chk : gchk g0 = true := by decide +kernel
set_option maxRecDepth 100000 in
theorem g1_mon : gmon g1 = true := by decide +kernel
set_option maxRecDepth 100000 in
theorem g0_mon : gmon g0 = true := by decide +kernel
theorem gmon_le {g : Nat → Nat} (h : gmon g = true) {n : Nat} : ∀ {d : Nat}, n + d ≤ 60 → g n ≤ g (n + d)
  | 0, _ => Nat.le_refl _
  | d + 1, hd => by
    have h1 := gmon_le h (n := n) (d := d) (by omega)
    have h2 := of_decide_eq_true (List.all_eq_true.mp h (n + d) (List.mem_range.mpr (by omega)))
    exact Nat.le_trans h1 h2
theorem gmon_to {g : Nat → Nat} (h : gmon g = true) {n m : Nat} (h1 : n ≤ m) (h2 : m ≤ 60) : g n ≤ g m := by
  have := gmon_le h (n := n) (d := m - n) (by omega)
  rw [show n + (m - n) = m by omega] at this
  exact this
theorem Gp_of {g : Nat → Nat} {b : Nat} (h0 : ∀ n, b ≤ g n) (h1 : gchk g = true) (h2 : gmon g = true) : Gp g b := by
  refine ⟨h0, fun n t e v hv ht he hn n' hn' hn6 => ?_⟩
  have k1 := List.all_eq_true.mp (List.all_eq_true.mp (List.all_eq_true.mp h1 n (List.mem_range.mpr (by omega))) t (List.mem_range.mpr (by omega))) e (List.mem_range.mpr (by omega))
  have k2 : t + (1 + e) * g n ≤ g (n + 2 * (t + e) + 3) := by
    rcases Bool.or_eq_true_iff.mp k1 with k | k
    · rw [decide_eq_true ht, decide_eq_true he] at k
      exact absurd k (by decide)
    · exact of_decide_eq_true k
  have k3 := Nat.mul_le_mul_left (1 + e) hv
  have k4 := gmon_to h2 hn' hn6
  omega
theorem g_base {L : List Nat} {b : Nat} (hb : b ≤ 9999) (h : ∀ x ∈ L, b ≤ x) (n : Nat) : b ≤ L.getD n 9999 := by
  rw [List.getD_eq_getElem?_getD]
  cases hn : L[n]? with
  | none => exact hb
  | some x => exact h x (List.mem_of_getElem? hn)
theorem g1_p : Gp g1 1 := Gp_of (g_base (by decide) (by decide)) g1_chk g1_mon
theorem g0_p : Gp g0 0 := Gp_of (fun _ => Nat.zero_le _) g0_chk g0_mon
/-- what failing runs cost at most: sums over the walks that change nothing -/
def G1 (R : Nat) : Nat := sJ (fun j => g1 (59 - 3 * (j + 1))) R
def G0 (R : Nat) : Nat := sJ (fun j => g0 (59 - 3 * (j + 1))) R
def Gfin (h : Nat → Nat) (K : Nat) : Bool := (List.range 22).all fun R => decide (h R ≤ K)
set_option maxRecDepth 100000 in
theorem G1_fin : Gfin G1 4180 = true := by decide +kernel
set_option maxRecDepth 100000 in
theorem G0_fin : Gfin G0 3206 = true := by decide +kernel
theorem Gfin_le {h : Nat → Nat} {K R : Nat} (e : Gfin h K = true) (hR : R < 22) : h R ≤ K := of_decide_eq_true (List.all_eq_true.mp e R (List.mem_range.mpr hR))
