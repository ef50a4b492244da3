/-! while the class is only asked: all its cells keep their contents but those that it writes to in between -/
noncomputable def FZt (B Q P : Nat → Nat) (h : AH) : TY := fun a => by
  classical exact if h1 : ∃ i, (30 ≤ i ∧ i < 52) ∧ a = B i then some (termφ (Q h1.choose) (rmI h1.choose))
  else if h2 : ∃ i, (30 ≤ i ∧ i < 52) ∧ a = Q i then some (FZ.letφ (rmI h2.choose))
  else if h3 : ∃ j, (60 ≤ j ∧ j < 70) ∧ a = Q j then some (rowφ (rlI h3.choose))
  else if a = P 4 then some (stepφ (B 50) (Q 60) (P 13))
  else if h5 : ∃ k, k < 3 ∧ a = P (13 + k) then some (pairφ (Q (64 + 2 * h5.choose)) (Q (65 + 2 * h5.choose)))
  else (h a).map isφ
section FZb
variable {B Q P : Nat → Nat} {ox : Nat} {kn : Int32} {d r : Int32} {h h' : AH} {F : Nat → TC} {a k : Nat} {vs : List Value}
theorem fz_nB (S : TS B Q h F) (e : h a = some (k, vs)) (hk : k ≠ 7) : ¬ ∃ i, (30 ≤ i ∧ i < 52) ∧ a = B i := fun ⟨i, hi, z⟩ => k_ne e (S i hi.2).2.1 hk z
theorem fz_nQ (S : TS B Q h F) (e : h a = some (k, vs)) (hk : k ≠ 107) : ¬ ∃ i, (30 ≤ i ∧ i < 52) ∧ a = Q i := fun ⟨i, hi, z⟩ => by
  obtain ⟨-, -, xs, x1, -⟩ := S i hi.2
  exact k_ne e x1 hk z
theorem fz_nR (R : ROWS Q h) (e : h a = some (k, vs)) (hk : k ≠ 107) : ¬ ∃ j, (60 ≤ j ∧ j < 70) ∧ a = Q j := fun ⟨j, hj, z⟩ => by
  obtain ⟨xs, x1, -⟩ := R j hj.1 hj.2
  exact k_ne e x1 hk z
theorem fz_n4 (R : SCR B Q P h) (e : h a = some (k, vs)) (hk : k ≠ 6) : a ≠ P 4 := fun z => by
  obtain ⟨⟨t, e2, r1⟩, -⟩ := R
  exact k_ne e r1 hk z
theorem fz_np (R : SCR B Q P h) (e : h a = some (k, vs)) (hk : k ≠ 4) : ¬ ∃ k, k < 3 ∧ a = P (13 + k) := fun ⟨i, hi, z⟩ => by
  obtain ⟨w, -, w2⟩ := R.2.2.2.1 i hi
  exact k_ne e w2 hk z
theorem FZt_B (Y : LYO B Q) {i : Nat} (h1 : 30 ≤ i) (h2 : i < 52) : FZt B Q P h (B i) = some (termφ (Q i) (rmI i)) := by
  have hx : ∃ i', (30 ≤ i' ∧ i' < 52) ∧ B i = B i' := ⟨i, ⟨h1, h2⟩, rfl⟩
  have e := hx.choose_spec
  have ei : hx.choose = i := Y.1 _ _ e.1.2 h2 e.2.symm
  unfold FZt
  rw [dif_pos hx, ei]
theorem FZt_Q (Y : LYO B Q) (S : TS B Q h F) {i : Nat} (h1 : 30 ≤ i) (h2 : i < 52) : FZt B Q P h (Q i) = some (FZ.letφ (rmI i)) := by
  obtain ⟨-, -, xs, x1, -⟩ := S i h2
  have hx : ∃ i', (30 ≤ i' ∧ i' < 52) ∧ Q i = Q i' := ⟨i, ⟨h1, h2⟩, rfl⟩
  have e := hx.choose_spec
  have ei : hx.choose = i := Y.2 _ _ (by omega) (by omega) e.2.symm
  unfold FZt
  rw [dif_neg (fz_nB S x1 (by decide)), dif_pos hx, ei]
theorem FZt_R (Y : LYO B Q) (S : TS B Q h F) (R : ROWS Q h) {j : Nat} (h1 : 60 ≤ j) (h2 : j < 70) : FZt B Q P h (Q j) = some (rowφ (rlI j)) := by
  obtain ⟨xs, x1, -⟩ := R j h1 h2
  have hx : ∃ i', (60 ≤ i' ∧ i' < 70) ∧ Q j = Q i' := ⟨j, ⟨h1, h2⟩, rfl⟩
  have e := hx.choose_spec
  have ei : hx.choose = j := Y.2 _ _ e.1.2 h2 e.2.symm
  unfold FZt
  rw [dif_neg (fz_nB S x1 (by decide)), dif_neg (fun ⟨i, hi, z⟩ => by have := Y.2 _ _ h2 (by omega) z; omega), dif_pos hx, ei]
theorem FZt_4 (S : TS B Q h F) (R : SCR B Q P h) : FZt B Q P h (P 4) = some (stepφ (B 50) (Q 60) (P 13)) := by
  obtain ⟨⟨t, e2, r1⟩, -, -, -, r5⟩ := R
  unfold FZt
  rw [dif_neg (fz_nB S r1 (by decide)), dif_neg (fz_nQ S r1 (by decide)), dif_neg (fz_nR r5 r1 (by decide)), if_pos rfl]
theorem FZt_p (Y : LYO B Q) (S : TS B Q h F) (R : SCR B Q P h) {i : Nat} (hi : i < 3) : FZt B Q P h (P (13 + i)) = some (pairφ (Q (64 + 2 * i)) (Q (65 + 2 * i))) := by
  obtain ⟨w, -, w2⟩ := R.2.2.2.1 i hi
  have hx : ∃ k, k < 3 ∧ P (13 + i) = P (13 + k) := ⟨i, hi, rfl⟩
  have e := hx.choose_spec
  have ei : hx.choose = i := by
    rcases Nat.decEq hx.choose i with z | z
    · exact absurd e.2.symm (R.pne Y e.1 hi z)
    · exact z
  unfold FZt
  rw [dif_neg (fz_nB S w2 (by decide)), dif_neg (fz_nQ S w2 (by decide)), dif_neg (fz_nR R.2.2.2.2 w2 (by decide)), if_neg (fz_n4 R w2 (by decide)), dif_pos hx, ei]
theorem FZt_k (S : TS B Q h F) (R : SCR B Q P h) (e : h a = some (k, vs)) (h7 : k ≠ 7) (h1 : k ≠ 107) (h6 : k ≠ 6) (h4 : k ≠ 4) : FZt B Q P h a = some (isφ (k, vs)) := by
  unfold FZt
  rw [dif_neg (fz_nB S e h7), dif_neg (fz_nQ S e h1), dif_neg (fz_nR R.2.2.2.2 e h1), if_neg (fz_n4 R e h6), dif_neg (fz_np R e h4), e]
  rfl
theorem FZt_b (Y : LYO B Q) (S : TS B Q h F) (R : SCR B Q P h) {i : Nat} (hi : i < 30) (e : h (B i) = some (7, vs)) : FZt B Q P h (B i) = some (isφ (7, vs)) := by
  unfold FZt
  rw [dif_neg (fun ⟨j, hj, z⟩ => by have := Y.1 _ _ (by omega) hj.2 z; omega), dif_neg (fz_nQ S e (by decide)), dif_neg (fz_nR R.2.2.2.2 e (by decide)), if_neg (fz_n4 R e (by decide)), dif_neg (fz_np R e (by decide)), e]
  rfl
theorem FZt_q (Y : LYO B Q) (S : TS B Q h F) (R : SCR B Q P h) {i : Nat} (hi : i < 30) (e : h (Q i) = some (107, vs)) : FZt B Q P h (Q i) = some (isφ (107, vs)) := by
  unfold FZt
  rw [dif_neg (fz_nB S e (by decide)), dif_neg (fun ⟨j, hj, z⟩ => by have := Y.2 _ _ (by omega) (by omega) z; omega), dif_neg (fun ⟨j, hj, z⟩ => by have := Y.2 _ _ (by omega) hj.2 z; omega), if_neg (fz_n4 R e (by decide)), dif_neg (fz_np R e (by decide)), e]
  rfl
theorem FZt_ok (S : TS B Q h F) (R : SCR B Q P h) : Tyg (FZt B Q P h) h := by
  intro a φ g
  unfold FZt at g
  split at g
  · rename_i hx
    obtain ⟨e1, e2⟩ := hx.choose_spec
    obtain ⟨s1, s2, -⟩ := S _ e1.2
    cases g
    exact ⟨_, (congrArg h e2).trans s2, _, _, rfl, s1⟩
  · split at g
    · rename_i hx
      obtain ⟨e1, e2⟩ := hx.choose_spec
      obtain ⟨-, -, xs, x1, x2, -⟩ := S _ e1.2
      cases g
      exact ⟨_, (congrArg h e2).trans x1, xs, rfl, x2, fun _ _ => trivial⟩
    · split at g
      · rename_i hx
        obtain ⟨e1, e2⟩ := hx.choose_spec
        obtain ⟨xs, x1, x2⟩ := R.2.2.2.2 _ e1.1 e1.2
        cases g
        exact ⟨_, (congrArg h e2).trans x1, xs, rfl, x2⟩
      · split at g
        · rename_i hx
          obtain ⟨⟨t, e2, r1⟩, -⟩ := R
          cases g
          exact ⟨_, (congrArg h hx).trans r1, t, e2, rfl⟩
        · split at g
          · rename_i hx
            obtain ⟨e1, e2⟩ := hx.choose_spec
            obtain ⟨w, w1, w2⟩ := R.2.2.2.1 _ e1
            cases g
            exact ⟨_, (congrArg h e2).trans w2, w, rfl, w1⟩
          · cases e : h a with
            | none => rw [e] at g; cases g
            | some c =>
              rw [e] at g
              cases g
              exact ⟨c, rfl, rfl⟩
theorem FZt_T (Y : LYO B Q) (S : TS B Q h F) {i : Nat} (h1 : 30 ≤ i) (h2 : i < 52) {L : Nat} (hL : L = rmI i) : FZ.TermG true (FZt B Q P h) (B i) L := by
  subst hL
  exact ⟨rmI_le i, Q i, FZt_B Y h1 h2, FZt_Q Y S h1 h2⟩
theorem FZt_F (Y : LYO B Q) (S : TS B Q h F) (R : SCR B Q P h) {i : Nat} (hi : i < 30) : FZ.TermG false (FZt B Q P h) (B i) 16 := by
  have hrm : rmI i = 16 := by unfold rmI; rw [if_pos (by omega)]
  obtain ⟨s1, s2, xs, x1, x2, -⟩ := S i (by omega)
  rw [hrm] at s1 x2
  exact ⟨by decide, Q i, ⟨_, FZt_b Y S R hi s2, fun c hc => by rw [hc]; exact ⟨_, _, rfl, s1⟩⟩, ⟨_, FZt_q Y S R hi x1, fun c hc => by rw [hc]; exact ⟨xs, rfl, x2, fun _ _ => trivial⟩⟩⟩
theorem FZt_A (Y : LYO B Q) (S : TS B Q h F) (R : SCR B Q P h) {o f : Nat} (O : AnO B h o f) {w : Bool} (ht : ∀ n, n < 8 → FZ.TermG w (FZt B Q P h) (B (f + n)) 16) : FZ.AnsG w (FZt B Q P h) o := by
  obtain ⟨h1, arr, h2, h3⟩ := O
  refine ⟨arr, rgB B f 8, FZt_k S R h2 (by decide) (by decide) (by decide) (by decide), FZt_k S R h3 (by decide) (by decide) (by decide) (by decide), by unfold rgB; rw [List.length_map, List.length_range], fun t ht2 => ?_⟩
  unfold rgB at ht2
  rw [List.mem_map] at ht2
  obtain ⟨n, hn, rfl⟩ := ht2
  exact ht n (List.mem_range.mp hn)
theorem FZt_Pr (Y : LYO B Q) (S : TS B Q h F) (R : SCR B Q P h) {i : Nat} (hi : i < 3) : PairsT (FZt B Q P h) (P (13 + i)) := by
  refine ⟨_, _, FZt_p Y S R hi, ?_, ?_⟩
  · rw [FZt_R Y S R.2.2.2.2 (by omega) (by omega)]
    unfold rlI
    rw [if_neg (by omega), if_neg (by omega)]
  · rw [FZt_R Y S R.2.2.2.2 (by omega) (by omega)]
    unfold rlI
    rw [if_neg (by omega), if_neg (by omega)]
theorem FZt_Bm (Y : LYO B Q) (C : CLS B Q P ox kn h F d r) : FZ.BmT (FZt B Q P h) ox kn := by
  obtain ⟨S, c2, ⟨p0, p1, pa, pb, pc⟩, R⟩ := id C
  obtain ⟨-, r2, r3, -, -⟩ := id R
  have lt16 : ∀ i, i < 50 → 34 ≤ i → (16 : Nat) = rmI i := fun i h1 h2 => by unfold rmI; rw [if_neg (by omega), if_neg (by omega), if_pos h1]
  refine ⟨P 0, P 1, B 30, B 31, B 32, B 33, P 2, P 3, P 4, P 5, P 6, rgB B 0 6, rgB P 7 3, ⟨_, FZt_k S R c2 (by decide) (by decide) (by decide) (by decide), fun c hc => by rw [hc]; exact ⟨d, r, rfl⟩⟩, FZt_k S R p0 (by decide) (by decide) (by decide) (by decide), FZt_k S R p1 (by decide) (by decide) (by decide) (by decide), by unfold rgB; rw [List.length_map, List.length_range], fun t ht => ?_, by unfold rgB; rw [List.length_map, List.length_range], fun t ht => ?_,
    FZt_T Y S (by decide) (by decide) rfl, FZt_T Y S (by decide) (by decide) rfl, FZt_T Y S (by decide) (by decide) rfl, FZt_T Y S (by decide) (by decide) rfl, FZt_A Y S R pb (fun n hn => FZt_T Y S (by omega) (by omega) (lt16 _ (by omega) (by omega))), FZt_A Y S R pc (fun n hn => FZt_T Y S (by omega) (by omega) (lt16 _ (by omega) (by omega))), ?_, ?_, ?_⟩
  · unfold rgB at ht
    rw [List.mem_map] at ht
    obtain ⟨n, hn, rfl⟩ := ht
    have := List.mem_range.mp hn
    exact FZt_F Y S R (by omega)
  · unfold rgB at ht
    rw [List.mem_map] at ht
    obtain ⟨n, hn, rfl⟩ := ht
    have hn3 := List.mem_range.mp hn
    exact FZt_A Y S R (pa n hn3) (fun i hi => FZt_F Y S R (by omega))
  · exact ⟨B 50, Q 60, P 13, FZt_4 S R, FZt_T Y S (by decide) (by decide) rfl, FZt_R Y S R.2.2.2.2 (by decide) (by decide), FZt_Pr Y S R (i := 0) (by decide)⟩
  · exact ⟨B 51, Q 61, Q 62, Q 63, P 14, FZt_k S R r2 (by decide) (by decide) (by decide) (by decide), FZt_T Y S (by decide) (by decide) rfl, FZt_R Y S R.2.2.2.2 (by decide) (by decide), FZt_R Y S R.2.2.2.2 (by decide) (by decide), FZt_R Y S R.2.2.2.2 (by decide) (by decide), FZt_Pr Y S R (i := 1) (by decide)⟩
  · exact ⟨P 15, FZt_k S R r3 (by decide) (by decide) (by decide) (by decide), FZt_Pr Y S R (i := 2) (by decide)⟩
theorem fz_is {a : Nat} {c : AC} (J : Tyg (FZt B Q P h) h') (e : FZt B Q P h a = some (isφ c)) : h' a = some c := by
  obtain ⟨c', h1, h2⟩ := J a _ e
  rw [h1, h2]
/-- what it was asked left all but what it writes to in between -/
theorem FZ_fin (Y : LYO B Q) (C : CLS B Q P ox kn h F d r) (J : Tyg (FZt B Q P h) h') : FrC h h' ∧ ∃ F' : Nat → TC, CLS B Q P ox kn h' F' d r ∧ ∀ i, i < 30 → F' i = F i := by
  obtain ⟨S, c2, ⟨p0, p1, pa, pb, pc⟩, R⟩ := id C
  obtain ⟨-, r2, r3, -, -⟩ := id R
  have kp : ∀ {a k : Nat} {vs : List Value}, h a = some (k, vs) → k ≠ 7 → k ≠ 107 → k ≠ 6 → k ≠ 4 → h' a = some (k, vs) := fun {a k vs} e h1 h2 h3 h4 => fz_is J (FZt_k S R e h1 h2 h3 h4)
  have ka : ∀ {o f : Nat}, AnO B h o f → AnO B h' o f := fun {o f} ⟨h1, arr, h2, h3⟩ => ⟨h1, arr, kp h2 (by decide) (by decide) (by decide) (by decide), kp h3 (by decide) (by decide) (by decide) (by decide)⟩
  have ex : ∀ i, ∃ t : TC, (i < 52 → TmX h' (B i) (Q i) (rmI i) t) ∧ (i < 30 → t = F i) := fun i => by
    rcases Nat.lt_or_ge i 30 with c | c
    · obtain ⟨s1, s2, xs, x1, x2, x3⟩ := S i (by omega)
      exact ⟨F i, fun _ => ⟨s1, fz_is J (FZt_b Y S R c s2), xs, fz_is J (FZt_q Y S R c x1), x2, x3⟩, fun _ => rfl⟩
    · rcases Nat.lt_or_ge i 52 with c2 | c2
      · obtain ⟨c1, h1, f, t, rfl, hf⟩ := J _ _ (FZt_B Y c c2)
        obtain ⟨c3, h3, xs, rfl, x2, -⟩ := J _ _ (FZt_Q Y S c c2)
        have el : (xs.take f).length = f := by rw [List.length_take]; omega
        exact ⟨(xs.take f, t), fun _ => ⟨by rw [el]; exact hf, by rw [el]; exact h1, xs, h3, x2, by rw [el]⟩, fun z => by omega⟩
      · exact ⟨([], false), fun z => by omega, fun z => by omega⟩
  obtain ⟨F', hF⟩ := Classical.axiomOfChoice ex
  refine ⟨fun a c e ck0 => ?_, F', ⟨fun i hi => (hF i).1 hi, kp c2 (by decide) (by decide) (by decide) (by decide), ⟨kp p0 (by decide) (by decide) (by decide) (by decide), kp p1 (by decide) (by decide) (by decide) (by decide), fun k hk => ka (pa k hk), ka pb, ka pc⟩, ?_, kp r2 (by decide) (by decide) (by decide) (by decide), kp r3 (by decide) (by decide) (by decide) (by decide), fun k hk => ?_, fun j h1 h2 => ?_⟩, fun i hi => (hF i).2 hi⟩
  · obtain ⟨k, vs⟩ := c
    exact kp e (fun z => by rw [z] at ck0; cases ck0) (fun z => by rw [z] at ck0; cases ck0) (fun z => by rw [z] at ck0; cases ck0) (fun z => by rw [z] at ck0; cases ck0)
  · obtain ⟨c, h1, t, e, rfl⟩ := J _ _ (FZt_4 S R)
    exact ⟨t, e, h1⟩
  · obtain ⟨c, h1, w, rfl, hw⟩ := J _ _ (FZt_p Y S R hk)
    exact ⟨w, hw, h1⟩
  · obtain ⟨c, h3, xs, rfl, x2⟩ := J _ _ (FZt_R Y S R.2.2.2.2 h1 h2)
    exact ⟨xs, h3, x2⟩
theorem FZ_st (Y : LYO B Q) {st : ST} (C0 : StC B Q P ox kn h st) : Tyg (FZt B Q P h) h ∧ FZ.BmT (FZt B Q P h) ox kn ∧ ∀ {h' : AH}, Tyg (FZt B Q P h) h' → StC B Q P ox kn h' st ∧ FrC h h' := by
  obtain ⟨F, C, H, O⟩ := C0
  refine ⟨FZt_ok C.1 C.2.2.2, FZt_Bm Y C, fun {h'} J => ?_⟩
  obtain ⟨f, F', C', e⟩ := FZ_fin Y C J
  exact ⟨⟨F', C', H.cg e, O⟩, f⟩
end FZb
