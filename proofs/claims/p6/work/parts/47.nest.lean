/-! calls of private static methods of the nest's host -/
section NEST
variable {p : Program} {la : Launch} {e : Env} {R : Room} {s : State} {m : MethodId} {args : Array Value} {below : List Frame} {meth : Method} {c : Code} {Q : State → Prop}
variable {D : va_G} {cA : Nat → ClassId} {B0 pa nL : Nat} {cc : ByteArray} {own : String} {pc k n : Nat} {l : List (Nat × Value)} {r : List Value} {h : AH}
theorem callSN_ok (X : CX p s m args c D cA B0 nL cc own) (E : EN D cA B0 pa s) {y : MethodName} {host : String} {bytes : ByteArray} {maxL idx : Nat} {ret : Option FieldType} {rm : Room} {av : List Value} {post : Option Value → AH → Prop}
    (hM : CT la D cA B0 pa y bytes maxL ret rm av h post) (hL : LK y bytes maxL av.length ret) (hl : Cond.methodLinkNest own idx y host ∈ lw_tbl) (hs : Cond.static y ∈ WT) (hR : rm.frames + 1 ≤ R.frames ∧ 8 + (maxL + 11) + rm.locals ≤ R.locals) (hf : k + rm.cells ≤ R.cells ∧ n + rm.slots ≤ R.slots)
    (hW : (r.map fun v => v.category).sum ≤ 8) (hd : decode cc pc = .ok (.invokestatic idx, 3))
    (kk : ∀ (v : Option Value) (h' : AH), post v h' → WS p la e R s m args below meth c Q D cA B0 nL (pc + 3) l (v.toList ++ r) h' (k + rm.cells) (n + rm.slots)) : WS p la e R s m args below meth c Q D cA B0 nL pc l (av.reverse ++ r) h k n :=
  run_ok (idx := idx) X.2.2.2.2.2.2 (fun H locs ls hH hls => va_runSN (fix_ok X) hM ⟨va_cnB av.length X.2.2.2.2.1 (WT_goodIn y bytes maxL ret hL.1) rfl rfl rfl (E.2.1 _ hl rfl) (X.2.2.2.2.1 _ hL.2.1) ⟨hL.2.2.1.1, hL.2.2.1.2, hL.2.2.2⟩ hR, X.2.2.2.2.1 _ hs, trivial⟩ (preS_of X E hH av) rfl rfl hls.1 rfl (lv_room hW) hd hf) kk
end NEST
set_option maxRecDepth 100000 in
theorem mnX9_21 : Cond.methodLinkNest RX9 21 yX10_namesOf RX10 ∈ lw_tbl := tbw_7 (List.mem_of_getElem? (i := 46) rfl)
set_option maxRecDepth 100000 in
theorem mnX9_53 : Cond.methodLinkNest RX9 53 yX10_parts RX10 ∈ lw_tbl := tbw_7 (List.mem_of_getElem? (i := 51) rfl)
set_option maxRecDepth 100000 in
theorem mnX9_57 : Cond.methodLinkNest RX9 57 yX10_at RX10 ∈ lw_tbl := tbw_7 (List.mem_of_getElem? (i := 52) rfl)
set_option maxRecDepth 100000 in
theorem mnX9_61 : Cond.methodLinkNest RX9 61 yX10_end RX10 ∈ lw_tbl := tbw_7 (List.mem_of_getElem? (i := 53) rfl)
set_option maxRecDepth 100000 in
theorem mnX9_73 : Cond.methodLinkNest RX9 73 yX10_row RX10 ∈ lw_tbl := tbw_7 (List.mem_of_getElem? (i := 126) rfl)
set_option maxRecDepth 100000 in
theorem mnX9_65 : Cond.methodLinkNest RX9 65 yX10_piece RX10 ∈ lw_tbl := tbw_7 (List.mem_of_getElem? (i := 131) rfl)
set_option maxRecDepth 100000 in
theorem mnX9_69 : Cond.methodLinkNest RX9 69 yX10_joined RX10 ∈ lw_tbl := tbw_7 (List.mem_of_getElem? (i := 132) rfl)
set_option maxRecDepth 100000 in
theorem mnX8_27 : Cond.methodLinkNest RX8 27 yX10_at RX10 ∈ lw_tbl := tbw_7 (List.mem_of_getElem? (i := 73) rfl)
set_option maxRecDepth 100000 in
theorem mnX8_62 : Cond.methodLinkNest RX8 62 yX10_same RX10 ∈ lw_tbl := tbw_7 (List.mem_of_getElem? (i := 78) rfl)
set_option maxRecDepth 100000 in
theorem mnX8_39 : Cond.methodLinkNest RX8 39 yX10_parts RX10 ∈ lw_tbl := tbw_7 (List.mem_of_getElem? (i := 79) rfl)
set_option maxRecDepth 100000 in
theorem mnX8_58 : Cond.methodLinkNest RX8 58 yX10_isAt RX10 ∈ lw_tbl := tbw_7 (List.mem_of_getElem? (i := 84) rfl)
set_option maxRecDepth 100000 in
theorem mnX8_47 : Cond.methodLinkNest RX8 47 yX10_end RX10 ∈ lw_tbl := tbw_7 (List.mem_of_getElem? (i := 87) rfl)
set_option maxRecDepth 100000 in
theorem mnX8_90 : Cond.methodLinkNest RX8 90 yX10_none RX10 ∈ lw_tbl := tbw_7 (List.mem_of_getElem? (i := 137) rfl)
set_option maxRecDepth 100000 in
theorem mnX8_79 : Cond.methodLinkNest RX8 79 yX10_row RX10 ∈ lw_tbl := tbw_7 (List.mem_of_getElem? (i := 143) rfl)
set_option maxRecDepth 100000 in
theorem mnX8_86 : Cond.methodLinkNest RX8 86 yX10_joined RX10 ∈ lw_tbl := tbw_7 (List.mem_of_getElem? (i := 144) rfl)
