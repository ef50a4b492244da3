/-! the class, strongly: places of letters, names (printed by wip/p20/genS4.py) -/
def fpN (x : Nat) : List Nat → Nat
  | [] => 0
  | y :: r => if y = x then 0 else fpN x r + 1
theorem fpN_eq (x : Nat) (r : List Nat) : fpN x (x :: r) = 0 := if_pos rfl
theorem fpN_ne {x y : Nat} (h : ¬ y = x) (r : List Nat) : fpN x (y :: r) = fpN x r + 1 := if_neg h
section S05
variable {la : Launch} {D : va_G} {cA : Nat → ClassId} {B0 pa : Nat} {B Q : Nat → Nat} {F : Nat → TC}
set_option maxHeartbeats 8000000 in
theorem s5_firstPlaceOf (h : AH) (S : TS B Q h F) {i : Nat} (hi : i < 52) {ns : List Nat} (hN : TN (F i) ns) {x : Nat} (hx : x < 2 ^ 20) : CT la D cA B0 pa yX5_firstPlaceOf cX5_firstPlaceOf 3 (some .int) (rmD 1 0 0) [.ref (B i), vI x] h (RP (if fpN x ns < ns.length then vI (fpN x ns) else .int (Int32.ofInt (-1))) h) := by
  refine CT_of (by decide +kernel) (Nat.le_of_ble_eq_true rfl) ?_
  intro p e s m args below meth c X E hr hlk hnm
  have dk : ∀ {pc : Nat} {q : Instr × Nat}, lkd DX5_firstPlaceOf pc = some q → decode cX5_firstPlaceOf pc = .ok q := lkd_ok DX5_firstPlaceOf_ok
  have hL := rmI_le i
  have hlen := (S i hi).1
  rw [hN.len] at hlen
  obtain ⟨-, a2, -⟩ := S i hi
  rw [hN.len] at a2
  have loop : ∀ (d k : Nat), d = ns.length - k → k ≤ ns.length → fpN x ns = k + fpN x (ns.drop k) → ∀ l : List (Nat × Value), lsel l [2, 1, 0] = [(2, vI k), (1, vI x), (0, .ref (B i))] → WR p la e (rmD 1 0 0) s m args below meth c D cA B0 3 (RP (if fpN x ns < ns.length then vI (fpN x ns) else .int (Int32.ofInt (-1))) h) 2 l [] h 0 0 := by
    intro d
    induction d with
    | zero =>
      intro k hd hk e l hl
      have hk2 : k = ns.length := by omega
      subst hk2
      rw [List.drop_length] at e
      have e2 : fpN x ns = ns.length := e
      rw [if_neg (by omega)]
      refine WS.sel [2, 1, 0] hl ?_
      iterate 2 refine fst1_ok X (dk rfl) rfl ?_
      refine getf_ok X flX5_21 (dk rfl) a2 rfl ?_
      refine br_ok X (dk rfl) rfl (show ((7 : Nat) : Int) + 20 = ((27 : Nat) : Int) from rfl) (fun _ => ?_) (fun q => absurd (Int32.le_refl _) q)
      refine fst1_ok X (dk rfl) rfl ?_
      exact reti_ok X hr hlk rfl (dk rfl) ⟨rfl, rfl⟩ (Nat.le_of_ble_eq_true rfl) (Nat.le_of_ble_eq_true rfl)
    | succ d ih =>
      intro k hd hk e l hl
      obtain ⟨y, hy⟩ : ∃ y, ns[k]? = some y := ⟨_, List.getElem?_eq_getElem (by omega)⟩
      have hyx := (hN.2 y (List.mem_of_getElem? hy)).lt
      rw [drop_cons hy] at e
      refine WS.sel [2, 1, 0] hl ?_
      iterate 2 refine fst1_ok X (dk rfl) rfl ?_
      refine getf_ok X flX5_21 (dk rfl) a2 rfl ?_
      refine br_ok X (dk rfl) rfl (show ((7 : Nat) : Int) + 20 = ((27 : Nat) : Int) from rfl) (fun q => absurd q (nI_ge (by omega) (by omega))) (fun _ => ?_)
      iterate 2 refine fst1_ok X (dk rfl) rfl ?_
      refine callVR_ok (ci := 7) (T := TX5) (N := 3) (av := [vI k]) (r := []) X E (s5_letterAt h S hi (nI k)) lkX5_letterAt mlX5_29 lmX5_letterAt lpX5_letterAt ⟨Nat.le_of_ble_eq_true rfl, Nat.le_of_ble_eq_true rfl⟩ ⟨Nat.le_of_ble_eq_true rfl, Nat.le_of_ble_eq_true rfl⟩ rfl ⟨_, (S i hi).2.1⟩ (Nat.le_of_ble_eq_true rfl) (dk rfl) ?_
      rintro _ rfl
      rw [hN.lt hy (by omega)]
      refine fst1_ok X (dk rfl) rfl ?_
      by_cases hyz : y = x
      · subst hyz
        have e2 : fpN y ns = k := by rw [e, fpN_eq]; rfl
        rw [e2, if_pos (by omega)]
        refine br_ok X (dk rfl) rfl (show ((16 : Nat) : Int) + 5 = ((21 : Nat) : Int) from rfl) (fun q => absurd rfl q) (fun _ => ?_)
        refine fst1_ok X (dk rfl) rfl ?_
        exact reti_ok X hr hlk rfl (dk rfl) ⟨rfl, rfl⟩ (Nat.le_of_ble_eq_true rfl) (Nat.le_of_ble_eq_true rfl)
      · have e2 : fpN x ns = k + 1 + fpN x (ns.drop (k + 1)) := by rw [e, fpN_ne hyz]; omega
        refine br_ok X (dk rfl) rfl (show ((16 : Nat) : Int) + 5 = ((21 : Nat) : Int) from rfl) (fun _ => ?_) (fun q => absurd (fun z => hyz ((nI_eq (by omega) (by omega)).mp z)) q)
        refine fst1_ok X (dk rfl) rfl ?_
        refine br_ok X (dk rfl) rfl (show ((24 : Nat) : Int) + (-22) = ((2 : Nat) : Int) from rfl) (fun _ => ?_) (fun q => absurd trivial q)
        have f2 : Value.int (nI k + Int32.ofInt 1) = vI (k + 1) := congrArg Value.int (by rw [nI_1', nI_add])
        refine WS.sel (l' := [(2, vI (k + 1)), (1, vI x), (0, .ref (B i))]) [2, 1, 0] (by rw [← f2]; rfl) ?_
        exact ih (k + 1) (by omega) (by omega) e2 _ rfl
  iterate 2 refine fst1_ok X (dk rfl) rfl ?_
  exact loop _ 0 rfl (Nat.zero_le _) (by rw [List.drop_zero, Nat.zero_add]) _ rfl
set_option maxHeartbeats 8000000 in
theorem s5_placesOf (h : AH) (S : TS B Q h F) {i : Nat} (hi : i < 52) {ns : List Nat} (hN : TN (F i) ns) {x : Nat} (hx : x < 2 ^ 20) : CT la D cA B0 pa yX5_placesOf cX5_placesOf 4 (some .int) (rmD 1 0 0) [.ref (B i), vI x] h (RP (vI (oftenN ns x)) h) := by
  refine CT_of (by decide +kernel) (Nat.le_of_ble_eq_true rfl) ?_
  intro p e s m args below meth c X E hr hlk hnm
  have dk : ∀ {pc : Nat} {q : Instr × Nat}, lkd DX5_placesOf pc = some q → decode cX5_placesOf pc = .ok q := lkd_ok DX5_placesOf_ok
  have hL := rmI_le i
  have hlen := (S i hi).1
  rw [hN.len] at hlen
  obtain ⟨-, a2, -⟩ := S i hi
  rw [hN.len] at a2
  have loop : ∀ (d k : Nat), d = ns.length - k → k ≤ ns.length → ∀ l : List (Nat × Value), lsel l [3, 2, 1, 0] = [(3, vI k), (2, vI ((ns.take k).foldl (fun m z => if z = x then m + 1 else m) 0)), (1, vI x), (0, .ref (B i))] → WR p la e (rmD 1 0 0) s m args below meth c D cA B0 4 (RP (vI (oftenN ns x)) h) 4 l [] h 0 0 := by
    intro d
    induction d with
    | zero =>
      intro k hd hk l hl
      have hk2 : k = ns.length := by omega
      subst hk2
      rw [List.take_length] at hl
      refine WS.sel [3, 2, 1, 0] hl ?_
      iterate 2 refine fst1_ok X (dk rfl) rfl ?_
      refine getf_ok X flX5_21 (dk rfl) a2 rfl ?_
      refine br_ok X (dk rfl) rfl (show ((9 : Nat) : Int) + 21 = ((30 : Nat) : Int) from rfl) (fun _ => ?_) (fun q => absurd (Int32.le_refl _) q)
      refine fst1_ok X (dk rfl) rfl ?_
      exact reti_ok X hr hlk rfl (dk rfl) ⟨rfl, rfl⟩ (Nat.le_of_ble_eq_true rfl) (Nat.le_of_ble_eq_true rfl)
    | succ d ih =>
      intro k hd hk l hl
      obtain ⟨y, hy⟩ : ∃ y, ns[k]? = some y := ⟨_, List.getElem?_eq_getElem (by omega)⟩
      have hyx := (hN.2 y (List.mem_of_getElem? hy)).lt
      have hfs := foldl_take_succ (fun m z => if z = x then m + 1 else m) 0 hy
      refine WS.sel [3, 2, 1, 0] hl ?_
      iterate 2 refine fst1_ok X (dk rfl) rfl ?_
      refine getf_ok X flX5_21 (dk rfl) a2 rfl ?_
      refine br_ok X (dk rfl) rfl (show ((9 : Nat) : Int) + 21 = ((30 : Nat) : Int) from rfl) (fun q => absurd q (nI_ge (by omega) (by omega))) (fun _ => ?_)
      iterate 2 refine fst1_ok X (dk rfl) rfl ?_
      refine callVR_ok (ci := 7) (T := TX5) (N := 3) (av := [vI k]) (r := []) X E (s5_letterAt h S hi (nI k)) lkX5_letterAt mlX5_29 lmX5_letterAt lpX5_letterAt ⟨Nat.le_of_ble_eq_true rfl, Nat.le_of_ble_eq_true rfl⟩ ⟨Nat.le_of_ble_eq_true rfl, Nat.le_of_ble_eq_true rfl⟩ rfl ⟨_, (S i hi).2.1⟩ (Nat.le_of_ble_eq_true rfl) (dk rfl) ?_
      rintro _ rfl
      rw [hN.lt hy (by omega)]
      refine fst1_ok X (dk rfl) rfl ?_
      have f2 : Value.int (nI k + Int32.ofInt 1) = vI (k + 1) := congrArg Value.int (by rw [nI_1', nI_add])
      by_cases hyz : y = x
      · rw [if_pos hyz] at hfs
        refine br_ok X (dk rfl) rfl (show ((18 : Nat) : Int) + 6 = ((24 : Nat) : Int) from rfl) (fun q => absurd (by rw [hyz]) q) (fun _ => ?_)
        iterate 2 refine fst1_ok X (dk rfl) rfl ?_
        refine br_ok X (dk rfl) rfl (show ((27 : Nat) : Int) + (-23) = ((4 : Nat) : Int) from rfl) (fun _ => ?_) (fun q => absurd trivial q)
        have f3 : Value.int (nI ((ns.take k).foldl (fun m z => if z = x then m + 1 else m) 0) + Int32.ofInt 1) = vI ((ns.take (k + 1)).foldl (fun m z => if z = x then m + 1 else m) 0) := congrArg Value.int (by rw [nI_1', nI_add, hfs])
        refine WS.sel (l' := [(3, vI (k + 1)), (2, vI ((ns.take (k + 1)).foldl (fun m z => if z = x then m + 1 else m) 0)), (1, vI x), (0, .ref (B i))]) [3, 2, 1, 0] (by rw [← f2, ← f3]; rfl) ?_
        exact ih (k + 1) (by omega) (by omega) _ rfl
      · rw [if_neg hyz] at hfs
        refine br_ok X (dk rfl) rfl (show ((18 : Nat) : Int) + 6 = ((24 : Nat) : Int) from rfl) (fun _ => ?_) (fun q => absurd (fun z => hyz ((nI_eq (by omega) (by omega)).mp z)) q)
        refine fst1_ok X (dk rfl) rfl ?_
        refine br_ok X (dk rfl) rfl (show ((27 : Nat) : Int) + (-23) = ((4 : Nat) : Int) from rfl) (fun _ => ?_) (fun q => absurd trivial q)
        refine WS.sel (l' := [(3, vI (k + 1)), (2, vI ((ns.take (k + 1)).foldl (fun m z => if z = x then m + 1 else m) 0)), (1, vI x), (0, .ref (B i))]) [3, 2, 1, 0] (by rw [← f2, hfs]; rfl) ?_
        exact ih (k + 1) (by omega) (by omega) _ rfl
  iterate 4 refine fst1_ok X (dk rfl) rfl ?_
  exact loop _ 0 rfl (Nat.zero_le _) _ rfl
set_option maxHeartbeats 8000000 in
theorem s5_namesIn (h : AH) (S : TS B Q h F) {i : Nat} (hi : i < 52) {ns : List Nat} (hN : TN (F i) ns) {a b : Nat} (hab : a ≤ b) (hb : b ≤ ns.length) : CT la D cA B0 pa yX5_namesIn cX5_namesIn 6 (some .int) (rmD 1 0 0) [.ref (B i), vI a, vI b] h (RP (vI (namesN ((ns.drop a).take (b - a)))) h) := by
  refine CT_of (by decide +kernel) (Nat.le_of_ble_eq_true rfl) ?_
  intro p e s m args below meth c X E hr hlk hnm
  have dk : ∀ {pc : Nat} {q : Instr × Nat}, lkd DX5_namesIn pc = some q → decode cX5_namesIn pc = .ok q := lkd_ok DX5_namesIn_ok
  have hL := rmI_le i
  have hlen := (S i hi).1
  rw [hN.len] at hlen
  obtain ⟨-, a2, -⟩ := S i hi
  rw [hN.len] at a2
  have loop : ∀ (d k : Nat), d = (b - a) - k → k ≤ b - a → ∀ l : List (Nat × Value), lsel l [4, 3, 2, 0] = [(4, vI (a + k)), (3, vI ((((ns.drop a).take (b - a)).take k).foldl (fun m x => if x < 10 then m ||| 2 ^ x else m) 0)), (2, vI b), (0, .ref (B i))] → WR p la e (rmD 1 0 0) s m args below meth c D cA B0 6 (RP (vI (namesN ((ns.drop a).take (b - a)))) h) 5 l [] h 0 0 := by
    intro d
    induction d with
    | zero =>
      intro k hd hk l hl
      have hk2 : k = b - a := by omega
      have hln : ((ns.drop a).take (b - a)).length = b - a := by rw [List.length_take, List.length_drop]; omega
      rw [hk2, List.take_of_length_le (by omega : ((ns.drop a).take (b - a)).length ≤ b - a)] at hl
      refine WS.sel [4, 3, 2, 0] hl ?_
      iterate 2 refine fst1_ok X (dk rfl) rfl ?_
      refine br_ok X (dk rfl) rfl (show ((8 : Nat) : Int) + 32 = ((40 : Nat) : Int) from rfl) (fun _ => ?_) (fun q => absurd (nI_le (by omega) (by omega)) q)
      refine fst1_ok X (dk rfl) rfl ?_
      exact reti_ok X hr hlk rfl (dk rfl) ⟨rfl, rfl⟩ (Nat.le_of_ble_eq_true rfl) (Nat.le_of_ble_eq_true rfl)
    | succ d ih =>
      intro k hd hk l hl
      obtain ⟨y, hy⟩ : ∃ y, ns[a + k]? = some y := ⟨_, List.getElem?_eq_getElem (by omega)⟩
      have hy2 : ((ns.drop a).take (b - a))[k]? = some y := by rw [List.getElem?_take, if_pos (by omega), List.getElem?_drop]; exact hy
      have hok := hN.2 y (List.mem_of_getElem? hy)
      have hyx := hok.lt
      have hfs := foldl_take_succ (fun m x => if x < 10 then m ||| 2 ^ x else m) 0 hy2
      refine WS.sel [4, 3, 2, 0] hl ?_
      iterate 2 refine fst1_ok X (dk rfl) rfl ?_
      refine br_ok X (dk rfl) rfl (show ((8 : Nat) : Int) + 32 = ((40 : Nat) : Int) from rfl) (fun q => absurd q (nI_ge (by omega) (by omega))) (fun _ => ?_)
      iterate 2 refine fst1_ok X (dk rfl) rfl ?_
      refine callVR_ok (ci := 7) (T := TX5) (N := 3) (av := [vI (a + k)]) (r := []) X E (s5_letterAt h S hi (nI (a + k))) lkX5_letterAt mlX5_29 lmX5_letterAt lpX5_letterAt ⟨Nat.le_of_ble_eq_true rfl, Nat.le_of_ble_eq_true rfl⟩ ⟨Nat.le_of_ble_eq_true rfl, Nat.le_of_ble_eq_true rfl⟩ rfl ⟨_, (S i hi).2.1⟩ (Nat.le_of_ble_eq_true rfl) (dk rfl) ?_
      rintro _ rfl
      rw [hN.lt hy (by omega)]
      iterate 2 refine fst1_ok X (dk rfl) rfl ?_
      refine callNR_ok (av := [vI y]) (r := []) X E (s6_isName h (x := y) (by omega)) lkX6_isName mnX5_44 lsX6_isName ⟨Nat.le_of_ble_eq_true rfl, Nat.le_of_ble_eq_true rfl⟩ ⟨Nat.le_of_ble_eq_true rfl, Nat.le_of_ble_eq_true rfl⟩ (Nat.le_of_ble_eq_true rfl) (dk rfl) ?_
      rintro _ rfl
      have f2 : Value.int (nI (a + k) + Int32.ofInt 1) = vI (a + (k + 1)) := congrArg Value.int (by rw [nI_1', nI_add]; rfl)
      by_cases h8 : y < 8
      · rw [if_pos (by omega)] at hfs
        rw [decide_eq_true h8]
        refine br_ok X (dk rfl) rfl (show ((24 : Nat) : Int) + 10 = ((34 : Nat) : Int) from rfl) (fun q => absurd q bI_t) (fun _ => ?_)
        iterate 7 refine fst1_ok X (dk rfl) rfl ?_
        refine br_ok X (dk rfl) rfl (show ((37 : Nat) : Int) + (-32) = ((5 : Nat) : Int) from rfl) (fun _ => ?_) (fun q => absurd trivial q)
        have f3 : Value.int (nI ((((ns.drop a).take (b - a)).take k).foldl (fun m x => if x < 10 then m ||| 2 ^ x else m) 0) ||| Int32.ofInt 1 <<< (nI y &&& 31)) = vI ((((ns.drop a).take (b - a)).take (k + 1)).foldl (fun m x => if x < 10 then m ||| 2 ^ x else m) 0) := congrArg Value.int (by rw [shl1 y (by omega), nI_or, hfs])
        refine WS.sel (l' := [(4, vI (a + (k + 1))), (3, vI ((((ns.drop a).take (b - a)).take (k + 1)).foldl (fun m x => if x < 10 then m ||| 2 ^ x else m) 0)), (2, vI b), (0, .ref (B i))]) [4, 3, 2, 0] (by rw [← f2, ← f3]; rfl) ?_
        exact ih (k + 1) (by omega) (by omega) _ rfl
      · rw [if_neg (by rcases hok with z | z <;> omega)] at hfs
        rw [decide_eq_false h8]
        refine br_ok X (dk rfl) rfl (show ((24 : Nat) : Int) + 10 = ((34 : Nat) : Int) from rfl) (fun _ => ?_) (fun q => absurd bI_f' q)
        refine fst1_ok X (dk rfl) rfl ?_
        refine br_ok X (dk rfl) rfl (show ((37 : Nat) : Int) + (-32) = ((5 : Nat) : Int) from rfl) (fun _ => ?_) (fun q => absurd trivial q)
        refine WS.sel (l' := [(4, vI (a + (k + 1))), (3, vI ((((ns.drop a).take (b - a)).take (k + 1)).foldl (fun m x => if x < 10 then m ||| 2 ^ x else m) 0)), (2, vI b), (0, .ref (B i))]) [4, 3, 2, 0] (by rw [← f2, hfs]; rfl) ?_
        exact ih (k + 1) (by omega) (by omega) _ rfl
  iterate 4 refine fst1_ok X (dk rfl) rfl ?_
  exact loop _ 0 rfl (Nat.zero_le _) _ (by rw [Nat.add_zero]; rfl)
set_option maxHeartbeats 4000000 in
theorem s5_allNames (h : AH) (S : TS B Q h F) {i : Nat} (hi : i < 52) {ns : List Nat} (hN : TN (F i) ns) : CT la D cA B0 pa yX5_allNames cX5_allNames 1 (some .int) (rmD 2 0 0) [.ref (B i)] h (RP (vI (namesN ns)) h) := by
  refine CT_of (by decide +kernel) (Nat.le_of_ble_eq_true rfl) ?_
  intro p e s m args below meth c X E hr hlk hnm
  have dk : ∀ {pc : Nat} {q : Instr × Nat}, lkd DX5_allNames pc = some q → decode cX5_allNames pc = .ok q := lkd_ok DX5_allNames_ok
  have hL := rmI_le i
  have hlen := (S i hi).1
  rw [hN.len] at hlen
  obtain ⟨-, a2, -⟩ := S i hi
  rw [hN.len] at a2
  iterate 3 refine fst1_ok X (dk rfl) rfl ?_
  refine getf_ok X flX5_21 (dk rfl) a2 rfl ?_
  refine callVR_ok (ci := 7) (T := TX5) (N := 3) (av := [vI 0, vI ns.length]) (r := []) X E (s5_namesIn h S hi hN (Nat.zero_le _) (Nat.le_refl _)) lkX5_namesIn mlX5_51 lmX5_namesIn lpX5_namesIn ⟨Nat.le_of_ble_eq_true rfl, Nat.le_of_ble_eq_true rfl⟩ ⟨Nat.le_of_ble_eq_true rfl, Nat.le_of_ble_eq_true rfl⟩ rfl ⟨_, (S i hi).2.1⟩ (Nat.le_of_ble_eq_true rfl) (dk rfl) ?_
  rintro _ rfl
  rw [List.drop_zero, Nat.sub_zero, List.take_length]
  exact reti_ok X hr hlk rfl (dk rfl) ⟨rfl, rfl⟩ (Nat.le_of_ble_eq_true rfl) (Nat.le_of_ble_eq_true rfl)
end S05
