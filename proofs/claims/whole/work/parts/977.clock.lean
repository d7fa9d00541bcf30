section LS
variable {p : Program} {l : Launch} {e : Env} {s : State} {m : MethodId} {below : List Frame} {meth : Method} {c : Code} {Q : State → Prop}
variable {D : va_G} {cT : Nat → ClassId} {cL cD : ClassId} {b L : Nat} {xs : Nat → Int32} {pc cells slots n : Nat} {w w1 w2 : Mem} {ls : Array Slot} {H : Heap} {locs : List Loc} {rest st : List Value}
set_option maxHeartbeats 4000000 in
theorem case_clock (hl0 : l.stackTraces = false) (C : LC p s m meth c D cT cL cD b L xs) (hn : n + 3 ≤ L) (hw : CPL w) {z : Int64} {u : UInt64} (hL : LM s D cT cL cD w (.long z) (.double u) H locs) (hl : lv_has ls 9 (LVs b s.heap.size (i32 (n : Int)))) (hc : cells + 1 ≤ 601024 ∧ slots + 6 ≤ 7293034)
    (kn : ∀ (ls1 : Array Slot) (H1 : Heap) (locs1 : List Loc) (w1 : Mem) (z1 : Int64) (u1 : UInt64), CPL w1 → lv_has ls1 9 (LVs b s.heap.size (i32 (n : Int))) → LM s D cT cL cD w1 (.long z1) (.double u1) H1 locs1 → W p l e room_1 s m #[Value.ref b] below meth c H1 locs1 (cells + 1) (slots + 6) Q (F0 m 699 ls1 [])) : W p l e room_1 s m #[Value.ref b] below meth c H locs cells slots Q (F0 m 510 ls []) := by
  have C1 := C
  obtain ⟨⟨hx, hb, hml, hown, hts, hT⟩, -, -, -, -, tD, -⟩ := C1
  refine lv_aload_n hx hb dl_510 rfl (lv_at hl 1 rfl) ?_
  refine ld_x (n := n) (k := 1) (a0 := 0) (a5 := 5) C (by omega) hL hl rfl rfl dl_511 dl_512 dl_514 dl_515 dl_516 ?_
  refine lv_aload_n hx hb dl_517 rfl (lv_at hl 3 rfl) ?_
  obtain ⟨k, z1, w1, v, w2, h1, h2, h3, h4, h5⟩ := out_HR (cp_clock (k := (xs (n + 1)).toInt) hw) (by decide) z
  refine callLaw (as := (aR 56 :: [aI (xs (n + 1)).toInt])) C (w_clock l hl0 (xs (n + 1)) (fun q hq => ad_ne hq (by decide)) h1) sw_clock ⟨by decide +kernel, by decide +kernel, by show _ = some 3; decide +kernel⟩ (by decide) hL hl.1 hc dl_518 (by simp only [List.map_cons, List.map_nil, List.reverse_cons, List.reverse_nil, List.nil_append, List.cons_append, List.append_nil, cV_R, cV_I, i32_of, cV_L]) (fun H1 locs1 hL1 => ?_)
  refine lv_istore hx hb dl_521 hl (by decide) rfl (fun ls1 hl1 => ?_)
  have hl2 : lv_has ls1 9 ((6, .int (i32 k)) :: LVs b s.heap.size (i32 (n : Int))) := hl1
  refine lv_aload_n hx hb dl_523 rfl (lv_at hl2 3 rfl) ?_
  refine ld_x (n := n) (k := 1) (a0 := 1) (a5 := 6) C (by omega) hL1 hl2 rfl rfl dl_524 dl_525 dl_527 dl_528 dl_529 ?_
  refine callMod (rr := 0) (j := 57) (as' := [aI (xs (n + 1)).toInt]) (w := w1) (w1 := w2) (rest := []) C (by decide) (by decide) (by decide +kernel) rfl ll_clock rfl (by decide +kernel) (by decide +kernel) (Nat.zero_le _) dl_530 h2 (fun q hq => by
    rw [List.mem_singleton.mp hq]
    exact okV_I (i32_in _)) hL1 hl2.1 hc (by simp only [List.map_cons, List.map_nil, List.reverse_cons, List.reverse_nil, List.nil_append, List.cons_append, List.append_nil, cV_R, cV_I, i32_of, cV_L]) (fun H2 locs2 hL2 => ?_)
  exact tail_int (q := 533) C (by decide) dl_533 dl_535 dl_536 dl_539 dl_541 dl_546 dl_548 dl_551 dl_552 dl_553 dl_554 dl_556 dl_557 dl_558 dl_563 hL2 hl2 h3 h4 hc (fun ls3 H3 locs3 hl3 hL3 => kn ls3 H3 locs3 w2 z1 u h5 hl3 hL3)
end LS
