/-! the bound on the steps, 13: a pair -/
theorem dp_bd {X : List Nat} (hX : BX X) {S : SS} {z t q : Nat} (hS : S1 X S) (hS' : S1 X (upS S z t)) (hz : S z = none) (hq : q < X.length) (hg : gl X (dp X S q) = z) (h10 : z < 10) (ht : gl X t < 10 → upS S z t (gl X t) = none) : dp X (upS S z t) q = t := by
  have d3 := (dp_ok hX hS hq).2.2
  rw [dp_ext hX hS hS' (Up.bind hz) _ q (Nat.lt_succ_self _) hq, dp_name hX hS' d3 (by omega) (show upS S z t (gl X (dp X S q)) = some t by rw [hg]; exact upS_self _ _ _), dp_free ht]
theorem dp_st {X : List Nat} (hX : BX X) {S : SS} {z t q : Nat} (hS : S1 X S) (hS' : S1 X (upS S z t)) (hz : S z = none) (hq : q < X.length) (hg : dp X S q = t) (ht : gl X t < 10 → upS S z t (gl X t) = none) : dp X (upS S z t) q = t := by
  rw [dp_ext hX hS hS' (Up.bind hz) _ q (Nat.lt_succ_self _) hq, hg, dp_free ht]
theorem Ap_both {X : List Nat} {S : SS} {dn : PL2} {p q t : Nat} (h1 : dp X S p = t) (h2 : dp X S q = t) : Ap X S dn p q := by
  unfold Ap
  rw [h1, h2]
  exact ⟨rfl, Or.inr (Gn.rf _ _)⟩
set_option maxHeartbeats 8000000 in
theorem go_ok {X : List Nat} {n1 : Nat} (hY : BY X n1) : ∀ f, GoT X n1 f := by
  have hX := hY.1
  intro f
  induction f with
  | zero =>
    intro S dn top an rp j P K R c1 c0 rs m I hj hf
    have := nodup_le X.length _ I.2.2.2.2.1 (fun c hc => by
      obtain ⟨y, hy, e⟩ := List.mem_map.mp hc
      rw [← e]
      exact (I.1.2.2.2.1 y (List.mem_append_right _ hy)).1)
    rw [List.length_map] at this
    have := hX.2.2
    omega
  | succ f IH =>
    intro S dn top an rp j P K R c1 c0 rs m I hj hf
    obtain ⟨t1, t2, t3, t4⟩ := I.hd
    obtain ⟨kp, kq, kU⟩ := I.kid hY hj
    have hS := I.1.1
    obtain ⟨d1, d2, d3⟩ := dp_ok hX hS kp
    obtain ⟨e1, e2, e3⟩ := dp_ok hX hS kq
    have g0 := goF_0 f (sub' X (ko X top.1 j)) (sub' X (ko X top.2 j)) (smO X S) m (d1.trans (congrArg some (sub_cons hX d3))) (e1.trans (congrArg some (sub_cons hX e3)))
    rw [← sub_cons hX d3, ← sub_cons hX e3] at g0
    obtain ⟨p, hp⟩ : ∃ p, p = ko X top.1 j := ⟨_, rfl⟩
    obtain ⟨q, hq⟩ : ∃ q, q = ko X top.2 j := ⟨_, rfl⟩
    obtain ⟨p1, hp1⟩ : ∃ p1, p1 = dp X S p := ⟨_, rfl⟩
    obtain ⟨q1, hq1⟩ : ∃ q1, q1 = dp X S q := ⟨_, rfl⟩
    rw [← hp] at d1 d2 d3 kp kU g0 ⊢
    rw [← hq] at e1 e2 e3 kq kU g0 ⊢
    rw [← hp1] at d1 d2 d3 g0
    rw [← hq1] at e1 e2 e3 g0
    have simple : ∀ S' : SS, goF (f + 1) (sub' X p) (sub' X q) (smO X S) m 0 = some (smO X S', m + 1, 0, 0, 0) → Up S S' → Inv X S' dn (top :: an) rp → nbS S' ≤ nbS S + 1 → Ap X S' dn p q → ∃ sm' m' w' C n, goF (f + 1) (sub' X p) (sub' X q) (smO X S) m 0 = some (sm', m', w', C, n) ∧
        ((w' = 0 ∧ ∃ (S' : SS) (dn' : PL2) (rp' : Nat → Nat) (K' R' d1 d0 : Nat) (rs' : List Nat), sm' = smO X S' ∧ m' + c1 = m + d1 ∧ Ins X n1 S' dn' top an rp' (j + 1) P K' R' d1 d0 rs' ∧ Up S S' ∧ (∀ q ∈ dn, q ∈ dn') ∧ New X S' dn dn' p q ∧ Ap X S' dn' p q ∧ C + 2 + 2 * c1 = 2 * d1 ∧ n + 30 * c0 ≤ 30 * d0) ∨
          (0 < w' ∧ w' ≤ 2 ∧ Fl P c1 c0 C n)) := by
      intro S' hr hU hI hn hA
      exact ⟨_, _, _, _, _, hr, Or.inl ⟨rfl, S', dn, rp, K + 1, R, c1 + 1, c0, rs, rfl, by omega, st1_ok hY I hU hI hn, hU, fun _ h => h, fun z hz => Or.inl hz, hA, by omega, by omega⟩⟩
    have fail : ∀ w', 0 < w' → w' ≤ 2 → goF (f + 1) (sub' X p) (sub' X q) (smO X S) m 0 = some (smO X S, m + 1, w', 0, 0) → ∃ sm' m' w' C n, goF (f + 1) (sub' X p) (sub' X q) (smO X S) m 0 = some (sm', m', w', C, n) ∧
        ((w' = 0 ∧ ∃ (S' : SS) (dn' : PL2) (rp' : Nat → Nat) (K' R' d1 d0 : Nat) (rs' : List Nat), sm' = smO X S' ∧ m' + c1 = m + d1 ∧ Ins X n1 S' dn' top an rp' (j + 1) P K' R' d1 d0 rs' ∧ Up S S' ∧ (∀ q ∈ dn, q ∈ dn') ∧ New X S' dn dn' p q ∧ Ap X S' dn' p q ∧ C + 2 + 2 * c1 = 2 * d1 ∧ n + 30 * c0 ≤ 30 * d0) ∨
          (0 < w' ∧ w' ≤ 2 ∧ Fl P c1 c0 C n)) := by
      intro w' h1 h2 hr
      exact ⟨_, _, _, _, _, hr, Or.inr ⟨h1, h2, fl_ok hY I⟩⟩
    by_cases hx : gl X p1 < 10
    · rw [if_pos hx] at g0
      have x8 := gl_8 hX d3 hx
      have xf := d2 hx
      by_cases hy : gl X q1 < 10
      · rw [if_pos hy] at g0
        have y8 := gl_8 hX e3 hy
        have yf := e2 hy
        by_cases e : gl X p1 = gl X q1
        · rw [if_pos e] at g0
          exact simple S g0 (Up.rf S) I.1 (by omega) ⟨by rw [← hp1, ← hq1]; exact e, Or.inl (by rw [← hp1]; exact ga_name hx)⟩
        · rw [if_neg e] at g0
          by_cases l : gl X p1 < gl X q1
          · rw [if_pos l, show max (gl X p1) (gl X q1) = gl X q1 by omega, smO_set X S y8] at g0
            have hI := I.1.bindN hX y8 yf d3 l xf
            have fr : gl X p1 < 10 → upS S (gl X q1) p1 (gl X p1) = none := fun _ => by rw [upS_ne _ _ (by omega)]; exact xf
            exact simple _ g0 (Up.bind yf) hI (by rw [nbS_up y8 yf]; omega) (Ap_both (dp_st hX hS hI.1 yf kp hp1.symm fr) (dp_bd hX hS hI.1 yf kq (by rw [← hq1]) (by omega) fr))
          · rw [if_neg l, show max (gl X p1) (gl X q1) = gl X p1 by omega, smO_set X S x8] at g0
            have hI := I.1.bindN hX x8 xf e3 (by omega) yf
            have fr : gl X q1 < 10 → upS S (gl X p1) q1 (gl X q1) = none := fun _ => by rw [upS_ne _ _ (by omega)]; exact yf
            exact simple _ g0 (Up.bind xf) hI (by rw [nbS_up x8 xf]; omega) (Ap_both (dp_bd hX hS hI.1 xf kp (by rw [← hp1]) (by omega) fr) (dp_st hX hS hI.1 xf kq hq1.symm fr))
      · rw [if_neg hy] at g0
        unfold bindF at g0
        cases hw : isWi (smO X S) (gl X p1) (sub' X q1) with
        | true =>
          rw [hw, if_pos rfl] at g0
          exact fail 2 (by omega) (by omega) g0
        | false =>
          rw [hw, if_neg (by decide), smO_set X S x8] at g0
          have hI := I.1.bindW hY x8 xf e3 (by omega) hw
          have fr : gl X q1 < 10 → upS S (gl X p1) q1 (gl X q1) = none := fun z => absurd z hy
          exact simple _ g0 (Up.bind xf) hI (by rw [nbS_up x8 xf]; omega) (Ap_both (dp_bd hX hS hI.1 xf kp (by rw [← hp1]) (by omega) fr) (dp_st hX hS hI.1 xf kq hq1.symm fr))
    · rw [if_neg hx] at g0
      by_cases hy : gl X q1 < 10
      · rw [if_pos hy] at g0
        have y8 := gl_8 hX e3 hy
        have yf := e2 hy
        unfold bindF at g0
        cases hw : isWi (smO X S) (gl X q1) (sub' X p1) with
        | true =>
          rw [hw, if_pos rfl] at g0
          exact fail 2 (by omega) (by omega) g0
        | false =>
          rw [hw, if_neg (by decide), smO_set X S y8] at g0
          have hI := I.1.bindW hY y8 yf d3 (by omega) hw
          have fr : gl X p1 < 10 → upS S (gl X q1) p1 (gl X p1) = none := fun z => absurd z hx
          exact simple _ g0 (Up.bind yf) hI (by rw [nbS_up y8 yf]; omega) (Ap_both (dp_st hX hS hI.1 yf kp hp1.symm fr) (dp_bd hX hS hI.1 yf kq (by rw [← hq1]) (by omega) fr))
      · rw [if_neg hy] at g0
        by_cases e : gl X p1 = gl X q1
        · rw [if_pos e] at g0
          have hga := ga_eq e
          rcases Nat.eq_zero_or_pos (ga X p1) with z | z
          · rw [show pF (gl X p1) = 0 from z] at g0
            exact simple S g0 (Up.rf S) I.1 (by omega) ⟨by rw [← hp1, ← hq1]; exact e, Or.inl (by rw [← hp1]; exact z)⟩
          · by_cases hr : rp p1 = rp q1
            · obtain ⟨m', C, n, x1, x0, h1, h2, h3, h4, h5, h6⟩ := rw_ok hY I hj (f := f + 1) (m := m) (p1 := p1) (q1 := q1) (by rw [← hp]; exact hp1) (by rw [← hq]; exact hq1) e z hr hf
              rw [← hp, ← hq] at h1 h4
              exact ⟨_, _, _, _, _, h1, Or.inl ⟨rfl, S, dn, rp, K, R + 1, x1, x0, p1 :: rs, rfl, h2, h3, Up.rf S, fun _ h => h, fun z hz => Or.inl hz, h4, h5, h6⟩⟩
            · have hgl3 := ga_le hX d3
              have Up1 : ∀ b w, VW X S b w → uP X b w p1 = uP X b w p := fun b w hw => by rw [hp1]; exact dp_U hX hS hw _ _ (Nat.lt_succ_self _) kp
              have Uq1 : ∀ b w, VW X S b w → uP X b w q1 = uP X b w q := fun b w hw => by rw [hq1]; exact dp_U hX hS hw _ _ (Nat.lt_succ_self _) kq
              obtain ⟨w1, hw1, -⟩ := I.w hY (b := 1) (by decide)
              obtain ⟨hI, hW⟩ := un_ok I.1 d3 e3 e z hr
              have I0 := I
              have hO := I.ok2
              obtain ⟨i1, i2, i3, i4, i5, i6, ⟨po1, po2⟩, ⟨k1, k2, k3, k4, k5, k6⟩⟩ := I
              have J : Ins X n1 S dn (p1, q1) (top :: an) (un rp p1 q1) 0 (P + ga X p1) (K + 1) R (c1 + 1) (c0 + 1) rs := by
                refine ⟨hI, fun s hs => ?_, fun g => hr ((i1.2.2.2.2.1 p1 q1).mpr g), List.mem_cons_of_mem _ i4, ?_, fun b w hw y hy => ?_, ⟨by omega, by omega⟩, by omega, by omega, k3, k4, fun w hw => ?_, fun w hw => ?_⟩
                · rcases i2 s hs with h | h | ⟨y, hy, i, h1, h2⟩ | ⟨i, h1, h2⟩
                  · exact Or.inl h
                  · exact Or.inr (Or.inl h)
                  · refine Or.inr (Or.inr (Or.inl ⟨y, ?_, i, h1, h2⟩))
                    rcases List.mem_append.mp hy with v | v
                    · exact List.mem_append_left _ v
                    · exact List.mem_append_right _ (List.mem_cons_of_mem _ v)
                  · exact Or.inr (Or.inr (Or.inl ⟨top, List.mem_append_right _ List.mem_cons_self, i, by omega, h2⟩))
                · rw [List.map_cons]
                  refine List.nodup_cons.mpr ⟨fun h => ?_, i5⟩
                  obtain ⟨y, hy, hy2⟩ := List.mem_map.mp h
                  have := (kU 1 w1 hw1 y hy).1
                  have hy3 : y.1 = p1 := hy2
                  rw [hy3, Up1 1 w1 hw1] at this
                  omega
                · have := kU b w hw y hy
                  have := Up1 b w hw
                  have := Uq1 b w hw
                  dsimp only
                  omega
                · have := k5 w hw
                  omega
                · have := k6 w hw
                  omega
              obtain ⟨sm', m', w', C, n, run, res⟩ := lp_ok hY IH (ga X p1) 0 S dn p1 q1 (top :: an) (un rp p1 q1) P (K + 1) R (c1 + 1) (c0 + 1) rs (m + 1) J (by omega) (by rw [List.length_cons]; omega) (fun i hi => absurd hi (Nat.not_lt_zero i))
              have kk1 : ko X p1 0 = p1 + 1 := rfl
              have kk2 : ko X q1 0 = q1 + 1 := rfl
              rw [kk1, kk2, show p1 + 1 - p1 = 1 by omega, show q1 + 1 - q1 = 1 by omega] at run
              have l1 := hY.tl16 d3
              have l2 := hY.tl16 e3
              have g1 := g0.trans run
              rcases res with ⟨rfl, S', dn', rp', K', R', x1, x0, rs', rfl, hm, I2, hU, hD, hN, hA, hC, hn⟩ | ⟨v0, v2, W, K', R', x1, x0, f1, f2, f3, f4, f5, f6⟩
              · have hI2 := pop_ok I2.1 hA
                have hS2 := hI2.1
                have hg10 := (ga_pos z).1
                have dpp : dp X S' p = p1 := by rw [dp_head hX hS hS2 hU kp (by rw [← hp1]; exact hg10), hp1]
                have dqq : dp X S' q = q1 := by rw [dp_head hX hS hS2 hU kq (by rw [← hq1, ← e]; exact hg10), hq1]
                have hNew : New X S' dn ((p1, q1) :: dn') p q := by
                  intro s hs
                  rcases List.mem_cons.mp hs with v | v
                  · refine Or.inr ⟨fun b w hw => ?_, ?_⟩
                    · rw [v]
                      have := Up1 b w (VW_up hU hw)
                      have := Uq1 b w (VW_up hU hw)
                      dsimp only
                      omega
                    · rw [v]
                      by_cases ep : p1 = p
                      · by_cases eq : q1 = q
                        · exact Or.inr (Or.inr (by rw [ep, eq]))
                        · left
                          by_cases hn' : gl X q < 10
                          · cases hs : S (gl X q) with
                            | none => exact absurd (hq1.trans (dp_free (fun _ => hs))) eq
                            | some s' => exact ⟨gl X q, s', hU _ _ hs, Or.inr (by rw [← dp_name hX hS2 kq hn' (hU _ _ hs)]; exact dqq)⟩
                          · exact absurd (hq1.trans (dp_free (fun h => absurd h hn'))) eq
                      · left
                        by_cases hn' : gl X p < 10
                        · cases hs : S (gl X p) with
                          | none => exact absurd (hp1.trans (dp_free (fun _ => hs))) ep
                          | some s' => exact ⟨gl X p, s', hU _ _ hs, Or.inl (by rw [← dp_name hX hS2 kp hn' (hU _ _ hs)]; exact dpp)⟩
                        · exact absurd (hp1.trans (dp_free (fun h => absurd h hn'))) ep
                  · rcases hN s v with y | ⟨y1, y2⟩
                    · exact Or.inl y
                    · refine Or.inr ⟨fun b w hw => ?_, ?_⟩
                      · have := y1 b w hw
                        have := Up1 b w (VW_up hU hw)
                        have := Uq1 b w (VW_up hU hw)
                        omega
                      · rcases y2 with y2 | ⟨y, h1, i, h2, h3⟩ | ⟨i, h2, h3⟩
                        · exact Or.inl y2
                        · exact Or.inr (Or.inl ⟨y, List.mem_cons_of_mem _ h1, i, h2, h3⟩)
                        · exact Or.inr (Or.inl ⟨(p1, q1), List.mem_cons_self, i, h2, h3⟩)
                have hD2 : ∀ s ∈ dn, s ∈ (p1, q1) :: dn' := fun s hs => List.mem_cons_of_mem _ (hD s hs)
                have i6' : ∀ b w, VW X S' b w → ∀ y ∈ an, uP X b w top.1 < uP X b w y.1 ∧ uP X b w top.2 < uP X b w y.2 := fun b w hw => i6 b w (VW_up hU hw)
                obtain ⟨w2, hw2, -⟩ := I2.w hY (b := 1) (by decide)
                have hfo : ¬ Gn (((p1, q1) :: dn') ++ an) top.1 top.2 := by
                  refine fo_ok hX hS2 hI2.2.2.1 hw2 t1 t2 (i6' 1 w2 hw2) hD2 (fun s hs => ?_) i3
                  rcases hNew s hs with y | ⟨y1, -⟩
                  · exact Or.inl y
                  · have := y1 1 w2 hw2
                    have := kU 1 w2 (VW_up hU hw2) top List.mem_cons_self
                    exact Or.inr ⟨by omega, by omega⟩
                have hTy := i2.new (S' := S') (dn' := (p1, q1) :: dn') hX hS hS2 hU hO hD2 (by rw [← hp, ← hq]; exact hNew)
                refine ⟨_, _, _, _, _, g1, Or.inl ⟨rfl, S', (p1, q1) :: dn', rp', K', R', x1, x0, rs', rfl, by omega, ⟨hI2, hTy, hfo, i4, i5, i6', I2.2.2.2.2.2.2.1, I2.2.2.2.2.2.2.2⟩, hU, hD2, hNew, ⟨by rw [dpp, dqq]; exact e, Or.inr (by rw [dpp, dqq]; exact Gn.of (q := (p1, q1)) List.mem_cons_self)⟩, by omega, by omega⟩⟩
              · exact ⟨_, _, _, _, _, g1, Or.inr ⟨v0, v2, W, K', R', x1, x0, f1, f2, f3, f4, by omega, by omega⟩⟩
        · rw [if_neg e] at g0
          exact fail 1 (by omega) (by omega) g0
