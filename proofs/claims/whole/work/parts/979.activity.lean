theorem out_HRd {w : Mem} {as : List AV} {y ym : Nat} (h : (∃ (v : Int) (s1 s2 : Mem), Zc 20 y (aR 56 :: as) w = rD v s1 ∧ Zc 20 ym (aR 0 :: as) s1 = rD v s2 ∧ s2 0 4 = 0 ∧ CPL s2) ∨
    ∃ (b : Int) (s1 s2 : Mem), Zc 20 y (aR 56 :: as) w = rT 6 s1 ∧ Zc 20 ym (aR 0 :: as) s1 = rD b s2 ∧ s2 0 4 = 1 ∧ CPL s2) (u : UInt64) :
    ∃ (k : Int) (u' : UInt64) (w1 : Mem) (v : Int) (w2 : Mem), HRd y (aR 56 :: as) [(6, 1)] w w1 k (.double u) (.double u') ∧ Zc 20 ym (aR 0 :: as) w1 = rD v w2 ∧ w2 0 4 = k ∧ ((k = 0 ∧ u' = dU v) ∨ ¬ i32 k = 0) ∧ CPL w2 := by
  rcases h with ⟨v, s1, s2, h1, h2, h3, h4⟩ | ⟨v, s1, s2, h1, h2, h3, h4⟩
  · exact ⟨0, dU v, s1, v, s2, Or.inl ⟨v, h1, rfl, rfl⟩, h2, h3, Or.inl ⟨rfl, rfl⟩, h4⟩
  · exact ⟨1, u, s1, v, s2, Or.inr ⟨(6, 1), List.mem_singleton.mpr rfl, h1, rfl, rfl⟩, h2, h3, Or.inr (by decide), h4⟩
section LS
variable {p : Program} {l : Launch} {e : Env} {s : State} {m : MethodId} {below : List Frame} {meth : Method} {c : Code} {Q : State → Prop}
variable {D : va_G} {cT : Nat → ClassId} {cL cD : ClassId} {b L : Nat} {xs : Nat → Int32} {pc cells slots n : Nat} {w w1 w2 : Mem} {ls : Array Slot} {H : Heap} {locs : List Loc} {rest st : List Value}
set_option maxHeartbeats 4000000 in
theorem case_activity (hl0 : l.stackTraces = false) (C : LC p s m meth c D cT cL cD b L xs) (hn : n + 3 ≤ L) (hw : CPL w) {z : Int64} {u : UInt64} (hL : LM s D cT cL cD w (.long z) (.double u) H locs) (hl : lv_has ls 9 (LVs b s.heap.size (i32 (n : Int)))) (hc : cells + 1 ≤ 601024 ∧ slots + 6 ≤ 7293034)
    (kn : ∀ (ls1 : Array Slot) (H1 : Heap) (locs1 : List Loc) (w1 : Mem) (z1 : Int64) (u1 : UInt64), CPL w1 → lv_has ls1 9 (LVs b s.heap.size (i32 (n : Int))) → LM s D cT cL cD w1 (.long z1) (.double u1) H1 locs1 → W p l e room_1 s m #[Value.ref b] below meth c H1 locs1 (cells + 1) (slots + 6) Q (F0 m 699 ls1 [])) : W p l e room_1 s m #[Value.ref b] below meth c H locs cells slots Q (F0 m 566 ls []) := by
  have C1 := C
  obtain ⟨⟨hx, hb, hml, hown, hts, hT⟩, -, -, -, -, tD, -⟩ := C1
  refine lv_aload_n hx hb dl_566 rfl (lv_at hl 1 rfl) ?_
  refine ld_x (n := n) (k := 1) (a0 := 0) (a5 := 5) C (by omega) hL hl rfl rfl dl_567 dl_568 dl_570 dl_571 dl_572 ?_
  refine lv_aload hx hb dl_573 (lv_at hl 4 rfl) ?_
  obtain ⟨k, u1, w1, v, w2, h1, h2, h3, h4, h5⟩ := out_HRd (cp_activity (k := (xs (n + 1)).toInt) hL.2.1 hw) u
  refine callLawD (as := (aR 56 :: [aI (xs (n + 1)).toInt])) C (w_activity l hl0 (xs (n + 1)) (fun q hq => ad_ne hq (by decide)) h1) sw_activity ⟨by decide +kernel, by decide +kernel, by show _ = some 3; decide +kernel⟩ (by decide) hL hl.1 hc dl_575 (by simp only [List.map_cons, List.map_nil, List.reverse_cons, List.reverse_nil, List.nil_append, List.cons_append, List.append_nil, cV_R, cV_I, i32_of, cV_L]) (fun H1 locs1 hL1 => ?_)
  refine lv_istore hx hb dl_578 hl (by decide) rfl (fun ls1 hl1 => ?_)
  have hl2 : lv_has ls1 9 ((6, .int (i32 k)) :: LVs b s.heap.size (i32 (n : Int))) := hl1
  refine lv_aload_n hx hb dl_580 rfl (lv_at hl2 3 rfl) ?_
  refine ld_x (n := n) (k := 1) (a0 := 1) (a5 := 6) C (by omega) hL1 hl2 rfl rfl dl_581 dl_582 dl_584 dl_585 dl_586 ?_
  refine callModD (rr := 0) (j := 58) (as' := [aI (xs (n + 1)).toInt]) (w := w1) (w1 := w2) (rest := []) C (by decide) (by decide) (by decide +kernel) rfl ll_activity rfl (by decide +kernel) (by decide +kernel) (Nat.zero_le _) dl_587 h2 (fun q hq => by
    rw [List.mem_singleton.mp hq]
    exact okV_I (i32_in _)) hL1 hl2.1 hc (by simp only [List.map_cons, List.map_nil, List.reverse_cons, List.reverse_nil, List.nil_append, List.cons_append, List.append_nil, cV_R, cV_I, i32_of, cV_L]) (fun H2 locs2 hL2 => ?_)
  refine lv_dstore hx hb dl_590 hl2 (by decide) rfl (fun ls3 hl3 => ?_)
  have hl4 : lv_has ls3 9 ((7, .double (dU v)) :: (6, .int (i32 k)) :: LVs b s.heap.size (i32 (n : Int))) := hl3
  refine lv_aload_n hx hb dl_592 rfl (lv_at hl4 4 rfl) ?_
  refine callMod (rr := 0) (j := 0) (as' := []) (v := w2 0 4) (w := w2) (w1 := w2) (rest := []) C (by decide) (by decide) (by decide +kernel) rfl ll_thrown rfl (by decide +kernel) (by decide +kernel) (Nat.zero_le _) dl_593 (t_thrown (by decide)) (fun q hq => absurd hq List.not_mem_nil) hL2 hl4.1 hc rfl (fun H3 locs3 hL3 => ?_)
  have fin : W p l e room_1 s m #[Value.ref b] below meth c H3 locs3 (cells + 1) (slots + 6) Q (F0 m 640 ls3 []) := lv_goto (tgt := 699) hx hb dl_640 (by decide) (kn ls3 H3 locs3 w2 z u1 h5 (lv_sub hl4 [2, 3, 4, 5, 6, 7] rfl) hL3)
  rw [h3]
  refine lv_iload hx hb dl_596 (lv_at hl4 1 rfl) ?_
  refine lv_icmp_eq (tgt := 603) hx hb dl_598 (by decide) (fun _ => ?_) (fun h => absurd rfl h)
  refine lv_iload hx hb dl_603 (lv_at hl4 1 rfl) ?_
  refine lv_if_ne (tgt := 640) hx hb dl_605 (by decide) (fun _ => fin) (fun h0 => ?_)
  have hu : u1 = dU v := by
    rcases h4 with ⟨-, hz⟩ | h
    · exact hz
    · exact absurd h0 h
  obtain ⟨-, -, -, ho, -⟩ := id hL3
  have hld : ∀ {pc : Nat} {rs : List Value}, decode code pc = .ok (.daload, 1) → W p l e room_1 s m #[Value.ref b] below meth c H3 locs3 (cells + 1) (slots + 6) Q (F0 m (pc + 1) ls3 (.double u1 :: rs)) → W p l e room_1 s m #[Value.ref b] below meth c H3 locs3 (cells + 1) (slots + 6) Q (F0 m pc ls3 (.int 0 :: .ref (s.heap.size + 152) :: rs)) := fun hd k => W.dald (j := 0) (v := .double u1) hx hb ho (tD 1 _) (fun q => by cases q) (by show ¬ ((0 : Int32) < 0 ∨ (arrV _ _ _).slots.size ≤ _); rw [arrV_size]; decide) (by show (arrV _ _ _).slots[0]? = _; rw [arrV_read _ _ (by decide)]) rfl rfl hd k
  refine lv_aload hx hb dl_608 (lv_at hl4 6 rfl) ?_
  refine lv_iconst (v := 0) hx hb dl_610 rfl ?_
  refine hld dl_611 ?_
  refine lv_dload hx hb dl_612 (lv_at hl4 0 rfl) ?_
  rw [← hu]
  refine lv_dcmp hx hb dl_614 ?_
  refine lv_if_eq (tgt := 640) hx hb dl_615 (by decide) (fun _ => fin) (fun hne => ?_)
  refine lv_aload hx hb dl_618 (lv_at hl4 6 rfl) ?_
  refine lv_iconst (v := 0) hx hb dl_620 rfl ?_
  refine hld dl_621 ?_
  refine lv_aload hx hb dl_622 (lv_at hl4 6 rfl) ?_
  refine lv_iconst (v := 0) hx hb dl_624 rfl ?_
  refine hld dl_625 ?_
  refine lv_dcmp hx hb dl_626 ?_
  refine lv_if_eq (tgt := 638) hx hb dl_627 (by decide) (fun h => absurd h hne) (fun _ => ?_)
  refine lv_dload hx hb dl_630 (lv_at hl4 0 rfl) ?_
  refine lv_dload hx hb dl_632 (lv_at hl4 0 rfl) ?_
  rw [← hu]
  refine lv_dcmp hx hb dl_634 ?_
  exact lv_if_ne (tgt := 640) hx hb dl_635 (by decide) (fun _ => fin) (fun h => absurd h hne)
end LS
