def txX (a c : Int32) : Int64 := (a.toInt64 <<< ((32 : Int32).toInt64 &&& 63)) ||| (c.toInt64 &&& 4294967295)
section LS
variable {p : Program} {l : Launch} {e : Env} {s : State} {m : MethodId} {below : List Frame} {meth : Method} {c : Code} {Q : State → Prop}
variable {D : va_G} {cT : Nat → ClassId} {cL cD : ClassId} {b L : Nat} {xs : Nat → Int32} {pc cells slots n : Nat} {w w1 w2 : Mem} {ls : Array Slot} {H : Heap} {locs : List Loc} {rest st : List Value}
set_option maxHeartbeats 4000000 in
theorem case_text (hl0 : l.stackTraces = false) (C : LC p s m meth c D cT cL cD b L xs) (hn : n + 3 ≤ L) (hw : CPL w) {z : Int64} {u : UInt64} (hL : LM s D cT cL cD w (.long z) (.double u) H locs) (hl : lv_has ls 9 (LVs b s.heap.size (i32 (n : Int)))) (hc : cells + 1 ≤ 601024 ∧ slots + 6 ≤ 7293034)
    (kn : ∀ (ls1 : Array Slot) (H1 : Heap) (locs1 : List Loc) (w1 : Mem) (z1 : Int64) (u1 : UInt64), CPL w1 → lv_has ls1 9 (LVs b s.heap.size (i32 (n : Int))) → LM s D cT cL cD w1 (.long z1) (.double u1) H1 locs1 → W p l e room_1 s m #[Value.ref b] below meth c H1 locs1 (cells + 1) (slots + 6) Q (F0 m 699 ls1 [])) : W p l e room_1 s m #[Value.ref b] below meth c H locs cells slots Q (F0 m 104 ls []) := by
  have C1 := C
  obtain ⟨⟨hx, hb, hml, hown, hts, hT⟩, -, -, -, -, tD, -⟩ := C1
  refine lv_aload_n hx hb dl_104 rfl (lv_at hl 1 rfl) ?_
  refine ld_x (n := n) (k := 1) (a0 := 0) (a5 := 5) C (by omega) hL hl rfl rfl dl_105 dl_106 dl_108 dl_109 dl_110 ?_
  refine lv_i2l hx hb dl_111 rfl ?_
  refine lv_bipush (v := 32) hx hb dl_112 (by decide +kernel) ?_
  refine lv_lshl hx hb dl_114 rfl ?_
  refine ld_x (n := n) (k := 2) (a0 := 0) (a5 := 5) C (by omega) hL hl rfl rfl dl_115 dl_116 dl_118 dl_119 dl_120 ?_
  refine lv_i2l hx hb dl_121 rfl ?_
  refine lv_ldc2 hx hb hown (hts _ (hT _ kl_57)) dl_122 ?_
  refine lv_land hx hb dl_125 ?_
  refine lv_lor hx hb dl_126 ?_
  show W p l e room_1 s m #[Value.ref b] below meth c H locs cells slots Q (F0 m 127 ls [.long (txX (xs (n + 1)) (xs (n + 2))), .ref (adF s.heap.size 56)])
  generalize hX : txX (xs (n + 1)) (xs (n + 2)) = X
  refine lv_aload_n hx hb dl_127 rfl (lv_at hl 3 rfl) ?_
  obtain ⟨k, z1, w1, v, w2, h1, h2, h3, h4, h5⟩ := out_HR (cp_text (x := X.toInt) hw) (by decide) z
  refine callLaw (as := (aR 56 :: [aL X.toInt])) C (w_text l hl0 X (fun q hq => ad_ne hq (by decide)) h1) sw_text ⟨by decide +kernel, by decide +kernel, by show _ = some 3; decide +kernel⟩ (by decide) hL hl.1 hc dl_128 (by simp only [List.map_cons, List.map_nil, List.reverse_cons, List.reverse_nil, List.nil_append, List.cons_append, List.append_nil, cV_R, cV_I, i32_of, cV_L]) (fun H1 locs1 hL1 => ?_)
  refine lv_istore hx hb dl_131 hl (by decide) rfl (fun ls1 hl1 => ?_)
  have hl2 : lv_has ls1 9 ((6, .int (i32 k)) :: LVs b s.heap.size (i32 (n : Int))) := hl1
  refine lv_aload_n hx hb dl_133 rfl (lv_at hl2 3 rfl) ?_
  refine ld_x (n := n) (k := 1) (a0 := 1) (a5 := 6) C (by omega) hL1 hl2 rfl rfl dl_134 dl_135 dl_137 dl_138 dl_139 ?_
  refine lv_i2l hx hb dl_140 rfl ?_
  refine lv_bipush (v := 32) hx hb dl_141 (by decide +kernel) ?_
  refine lv_lshl hx hb dl_143 rfl ?_
  refine ld_x (n := n) (k := 2) (a0 := 1) (a5 := 6) C (by omega) hL1 hl2 rfl rfl dl_144 dl_145 dl_147 dl_148 dl_149 ?_
  refine lv_i2l hx hb dl_150 rfl ?_
  refine lv_ldc2 hx hb hown (hts _ (hT _ kl_57)) dl_151 ?_
  refine lv_land hx hb dl_154 ?_
  refine lv_lor hx hb dl_155 ?_
  show W p l e room_1 s m #[Value.ref b] below meth c H1 locs1 (cells + 1) (slots + 6) Q (F0 m 156 ls1 [.long (txX (xs (n + 1)) (xs (n + 2))), .ref (adF s.heap.size 0)])
  rw [hX]
  refine callMod (rr := 0) (j := 3) (as' := [aL X.toInt]) (w := w1) (w1 := w2) (rest := []) C (by decide) (by decide) (by decide +kernel) rfl ll_text rfl (by decide +kernel) (by decide +kernel) (Nat.zero_le _) dl_156 h2 (fun q hq => by
    rw [List.mem_singleton.mp hq]
    exact okV_2 _) hL1 hl2.1 hc (by simp only [List.map_cons, List.map_nil, List.reverse_cons, List.reverse_nil, List.nil_append, List.cons_append, List.append_nil, cV_R, cV_I, i32_of, cV_L]) (fun H2 locs2 hL2 => ?_)
  exact tail_int (q := 159) C (by decide) dl_159 dl_161 dl_162 dl_165 dl_167 dl_172 dl_174 dl_177 dl_178 dl_179 dl_180 dl_182 dl_183 dl_184 dl_189 hL2 hl2 h3 h4 hc (fun ls3 H3 locs3 hl3 hL3 => kn ls3 H3 locs3 w2 z1 u h5 hl3 hL3)
end LS
