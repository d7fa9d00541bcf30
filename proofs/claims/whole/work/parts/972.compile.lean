section LS
variable {p : Program} {l : Launch} {e : Env} {s : State} {m : MethodId} {below : List Frame} {meth : Method} {c : Code} {Q : State → Prop}
variable {D : va_G} {cT : Nat → ClassId} {cL cD : ClassId} {b L : Nat} {xs : Nat → Int32} {pc cells slots n : Nat} {w w1 w2 : Mem} {ls : Array Slot} {H : Heap} {locs : List Loc} {rest st : List Value}
set_option maxHeartbeats 4000000 in
theorem case_compile (hl0 : l.stackTraces = false) (C : LC p s m meth c D cT cL cD b L xs) (hn : n + 3 ≤ L) (hw : CPL w) {z : Int64} {u : UInt64} (hL : LM s D cT cL cD w (.long z) (.double u) H locs) (hl : lv_has ls 9 (LVs b s.heap.size (i32 (n : Int)))) (hc : cells + 1 ≤ 601024 ∧ slots + 6 ≤ 7293034)
    (kn : ∀ (ls1 : Array Slot) (H1 : Heap) (locs1 : List Loc) (w1 : Mem) (z1 : Int64) (u1 : UInt64), CPL w1 → lv_has ls1 9 (LVs b s.heap.size (i32 (n : Int))) → LM s D cT cL cD w1 (.long z1) (.double u1) H1 locs1 → W p l e room_1 s m #[Value.ref b] below meth c H1 locs1 (cells + 1) (slots + 6) Q (F0 m 699 ls1 [])) : W p l e room_1 s m #[Value.ref b] below meth c H locs cells slots Q (F0 m 205 ls []) := by
  have C1 := C
  obtain ⟨⟨hx, hb, hml, hown, hts, hT⟩, -, -, -, -, tD, -⟩ := C1
  refine lv_aload_n hx hb dl_205 rfl (lv_at hl 1 rfl) ?_
  refine lv_aload_n hx hb dl_206 rfl (lv_at hl 3 rfl) ?_
  obtain ⟨k, z1, w1, v, w2, h1, h2, h3, h4, h5⟩ := out_HR (cp_compile  hw) (by decide) z
  refine callLaw (as := (aR 56 :: [])) C (w_compile l hl0  (fun q hq => ad_ne hq (by decide)) h1) sw_compile ⟨by decide +kernel, by decide +kernel, by show _ = some 2; decide +kernel⟩ (by decide) hL hl.1 hc dl_207 (by simp only [List.map_cons, List.map_nil, List.reverse_cons, List.reverse_nil, List.nil_append, List.cons_append, List.append_nil, cV_R, cV_I, i32_of, cV_L]) (fun H1 locs1 hL1 => ?_)
  refine lv_istore hx hb dl_210 hl (by decide) rfl (fun ls1 hl1 => ?_)
  have hl2 : lv_has ls1 9 ((6, .int (i32 k)) :: LVs b s.heap.size (i32 (n : Int))) := hl1
  refine lv_aload_n hx hb dl_212 rfl (lv_at hl2 3 rfl) ?_
  refine callMod (rr := 0) (j := 46) (as' := []) (w := w1) (w1 := w2) (rest := []) C (by decide) (by decide) (by decide +kernel) rfl ll_compile rfl (by decide +kernel) (by decide +kernel) (Nat.zero_le _) dl_213 h2 (fun q hq => absurd hq List.not_mem_nil) hL1 hl2.1 hc (by simp only [List.map_cons, List.map_nil, List.reverse_cons, List.reverse_nil, List.nil_append, List.cons_append, List.append_nil, cV_R, cV_I, i32_of, cV_L]) (fun H2 locs2 hL2 => ?_)
  exact tail_int (q := 216) C (by decide) dl_216 dl_218 dl_219 dl_222 dl_224 dl_229 dl_231 dl_234 dl_235 dl_236 dl_237 dl_239 dl_240 dl_241 dl_246 hL2 hl2 h3 h4 hc (fun ls3 H3 locs3 hl3 hL3 => kn ls3 H3 locs3 w2 z1 u h5 hl3 hL3)
end LS
