/-! THE CLASS: widths of the nodes -/
theorem kb_loop {d v : Nat} (hv : v < 65536) (s : Mem) : ∀ (f n : Nat), n + f = 17 → n ≤ 16 → Ze d 119 2 [aI v, aI n] [] s = rI (nbF f n v) s := by
  intro f
  induction f with
  | zero => intro n h h2; omega
  | succ f ih =>
    intro n h h2
    rw [x119_2, nbF]
    by_cases h16 : n < 16
    · have hs := b_shr (x := v) (n := n) (by omega) (by omega)
      by_cases hz : v / 2 ^ n = 0
      · rw [if_pos hz]
        simp (disch := first | exact obC_0 | omega | (simp only [List.length_cons, List.length_nil]; omega)) only [en119, x119_0, x119_1, x119_3, x119_5, x119_8, x119_9, x119_10, x119_11, x119_14, x119_17, x119_20, x119_21, if_true, if_false, eq_self, Int.reduceEq, Int.reduceLT, Int.reduceLE, Int.reduceAdd, Int.reduceSub, Int.reduceMul, Int.reduceToNat, Nat.reduceAdd, Nat.reduceMul, Nat.reduceEqDiff, Int.toNat_natCast, wrap_id, if_pos (show (n : Int) < 16 by omega), hs, if_pos (show ((v / 2 ^ n : Nat) : Int) = 0 by omega)]
      · rw [if_neg hz, ← ih (n + 1) (by omega) (by omega), show ((n + 1 : Nat) : Int) = (n : Int) + 1 from rfl]
        simp (disch := first | exact obC_0 | omega | (simp only [List.length_cons, List.length_nil]; omega)) only [en119, x119_0, x119_1, x119_3, x119_5, x119_8, x119_9, x119_10, x119_11, x119_14, x119_17, x119_20, x119_21, if_true, if_false, eq_self, Int.reduceEq, Int.reduceLT, Int.reduceLE, Int.reduceAdd, Int.reduceSub, Int.reduceMul, Int.reduceToNat, Nat.reduceAdd, Nat.reduceMul, Nat.reduceEqDiff, Int.toNat_natCast, wrap_id, if_pos (show (n : Int) < 16 by omega), hs, if_neg (show ¬ ((v / 2 ^ n : Nat) : Int) = 0 by omega)]
    · have hn : n = 16 := by omega
      subst hn
      rw [if_pos (Nat.div_eq_of_lt (by omega))]
      simp (disch := first | exact obC_0 | omega | (simp only [List.length_cons, List.length_nil]; omega)) only [en119, x119_0, x119_1, x119_3, x119_5, x119_8, x119_9, x119_10, x119_11, x119_14, x119_17, x119_20, x119_21, if_true, if_false, eq_self, Int.reduceEq, Int.reduceLT, Int.reduceLE, Int.reduceAdd, Int.reduceSub, Int.reduceMul, Int.reduceToNat, Nat.reduceAdd, Nat.reduceMul, Nat.reduceEqDiff, Int.toNat_natCast, wrap_id, if_neg (show ¬ ((16 : Nat) : Int) < 16 by decide)]
theorem k_bitsOf {d v : Nat} (hd : 1 ≤ d) (hv : v < 65536) (s : Mem) : Zc d 119 [aI v] s = rI (nbt v) s := by
  obtain ⟨d, rfl⟩ : ∃ e, d = e + 1 := ⟨d - 1, by omega⟩
  unfold nbt
  rw [← kb_loop (d := d) hv s 16 1 rfl (by decide)]
  have z1 : ((1 : Nat) : Int) = 1 := rfl
  simp (disch := first | exact obC_0 | omega | (simp only [List.length_cons, List.length_nil]; omega)) only [en119, x119_0, x119_1, x119_3, x119_5, x119_8, x119_9, x119_10, x119_11, x119_14, x119_17, x119_20, x119_21, if_true, if_false, eq_self, Int.reduceEq, Int.reduceLT, Int.reduceLE, Int.reduceAdd, Int.reduceSub, Int.reduceMul, Int.reduceToNat, Nat.reduceAdd, Nat.reduceMul, Nat.reduceEqDiff, Int.toNat_natCast, wrap_id, z1]
theorem kw_num {d o i v : Nat} {r : Nat} {s : Mem} (hd : 2 ≤ d) (ho : o = 0 ∨ o = 26) (hi : i < 225) (hk : s (67 + o) i = 2) (hl : s (68 + o) i = v) (hv : v < 65536) : Zc d 118 [aR (66 + o), aI i, aR r] s = rI (nbt v) s := by
  obtain ⟨d, rfl⟩ : ∃ e, d = e + 1 := ⟨d - 1, by omega⟩
  simp (disch := first | exact (obCO_66 ho) | omega | (simp only [(aN1O_67 ho), (aN1O_68 ho), (aN1O_69 ho), (aN1O_70 ho), (aN1O_72 ho)]; omega) | (simp only [List.length_cons, List.length_nil]; omega)) only [en118, x118_0, x118_1, x118_4, x118_5, x118_6, x118_88, x118_89, x118_92, x118_93, x118_94, x118_97, x118_98, x118_99, x118_100, x118_103, x118_104, x118_105, x118_106, x118_107, x118_108, x118_111, x118_112, x118_113, x118_114, x118_117, x118_118, x118_119, x118_120, x118_121, x118_122, x118_123, x118_124, x118_127, x118_128, x118_131, x118_132, x118_133, x118_134, x118_135, x118_136, x118_137, x118_138, x118_141, x118_142, x118_145, x118_146, x118_147, x118_148, x118_149, x118_152, x118_153, x118_156, x118_157, x118_158, x118_159, x118_160, x118_161, x118_162, x118_165, x118_166, x118_169, x118_170, x118_171, x118_172, x118_173, x118_176, x118_177, x118_180, x118_181, x118_182, x118_183, x118_186, x118_187, x118_188, x118_189, x118_190, x118_193, x118_194, x118_197, x118_198, x118_199, x118_200, x118_201, x118_204, x118_205, x118_208, x118_209, x118_210, x118_211, x118_214, x118_215, x118_216, x118_219, x118_220, x118_223, x118_224, x118_225, x118_226, x118_227, x118_230, x118_231, x118_234, x118_235, x118_236, x118_237, x118_240, (fcnO_66_0 ho), (fcnO_66_1 ho), (fcnO_66_2 ho), (fcnO_66_3 ho), (fcnO_66_5 ho), if_true, if_false, eq_self, Int.reduceEq, Int.reduceLT, Int.reduceLE, Int.reduceAdd, Int.reduceSub, Int.reduceMul, Int.reduceToNat, Nat.reduceAdd, Nat.reduceMul, Nat.reduceEqDiff, Int.toNat_natCast, wrap_id, hk, selZ, hl, k_bitsOf (d := d) (by omega) hv, zcI_r]
theorem kw_idx {d o i g : Nat} {w : Int} {s : Mem} (hd : 1 ≤ d) (ho : o = 0 ∨ o = 26) (hi : i < 225) (hk : s (67 + o) i = 5) (hl : s (68 + o) i = g) (hg : g < 24) (hw : s (62 + o) g = w) : Zc d 118 [aR (66 + o), aI i, aR (62 + o)] s = rI w s := by
  obtain ⟨d, rfl⟩ : ∃ e, d = e + 1 := ⟨d - 1, by omega⟩
  have hg24 : (g : Int) < aN1 (62 + o) := by rw [aN1O_62 ho]; omega
  simp (disch := first | exact (obCO_66 ho) | omega | (simp only [(aN1O_67 ho), (aN1O_68 ho), (aN1O_69 ho), (aN1O_70 ho), (aN1O_72 ho)]; omega) | (simp only [List.length_cons, List.length_nil]; omega)) only [en118, x118_0, x118_1, x118_4, x118_5, x118_6, x118_88, x118_89, x118_92, x118_93, x118_94, x118_97, x118_98, x118_99, x118_100, x118_103, x118_104, x118_105, x118_106, x118_107, x118_108, x118_111, x118_112, x118_113, x118_114, x118_117, x118_118, x118_119, x118_120, x118_121, x118_122, x118_123, x118_124, x118_127, x118_128, x118_131, x118_132, x118_133, x118_134, x118_135, x118_136, x118_137, x118_138, x118_141, x118_142, x118_145, x118_146, x118_147, x118_148, x118_149, x118_152, x118_153, x118_156, x118_157, x118_158, x118_159, x118_160, x118_161, x118_162, x118_165, x118_166, x118_169, x118_170, x118_171, x118_172, x118_173, x118_176, x118_177, x118_180, x118_181, x118_182, x118_183, x118_186, x118_187, x118_188, x118_189, x118_190, x118_193, x118_194, x118_197, x118_198, x118_199, x118_200, x118_201, x118_204, x118_205, x118_208, x118_209, x118_210, x118_211, x118_214, x118_215, x118_216, x118_219, x118_220, x118_223, x118_224, x118_225, x118_226, x118_227, x118_230, x118_231, x118_234, x118_235, x118_236, x118_237, x118_240, (fcnO_66_0 ho), (fcnO_66_1 ho), (fcnO_66_2 ho), (fcnO_66_3 ho), (fcnO_66_5 ho), if_true, if_false, eq_self, Int.reduceEq, Int.reduceLT, Int.reduceLE, Int.reduceAdd, Int.reduceSub, Int.reduceMul, Int.reduceToNat, Nat.reduceAdd, Nat.reduceMul, Nat.reduceEqDiff, Int.toNat_natCast, wrap_id, hk, selZ, hl, hw]
theorem kw_not {d o i a : Nat} {w : Int} {r : Nat} {s : Mem} (hd : 1 ≤ d) (ho : o = 0 ∨ o = 26) (hi : i < 225) (hk : s (67 + o) i = 33) (hl : s (68 + o) i = a) (ha : a < 225) (hw : s (72 + o) a = w) : Zc d 118 [aR (66 + o), aI i, aR r] s = rI w s := by
  obtain ⟨d, rfl⟩ : ∃ e, d = e + 1 := ⟨d - 1, by omega⟩
  simp (disch := first | exact (obCO_66 ho) | omega | (simp only [(aN1O_67 ho), (aN1O_68 ho), (aN1O_69 ho), (aN1O_70 ho), (aN1O_72 ho)]; omega) | (simp only [List.length_cons, List.length_nil]; omega)) only [en118, x118_0, x118_1, x118_4, x118_5, x118_6, x118_88, x118_89, x118_92, x118_93, x118_94, x118_97, x118_98, x118_99, x118_100, x118_103, x118_104, x118_105, x118_106, x118_107, x118_108, x118_111, x118_112, x118_113, x118_114, x118_117, x118_118, x118_119, x118_120, x118_121, x118_122, x118_123, x118_124, x118_127, x118_128, x118_131, x118_132, x118_133, x118_134, x118_135, x118_136, x118_137, x118_138, x118_141, x118_142, x118_145, x118_146, x118_147, x118_148, x118_149, x118_152, x118_153, x118_156, x118_157, x118_158, x118_159, x118_160, x118_161, x118_162, x118_165, x118_166, x118_169, x118_170, x118_171, x118_172, x118_173, x118_176, x118_177, x118_180, x118_181, x118_182, x118_183, x118_186, x118_187, x118_188, x118_189, x118_190, x118_193, x118_194, x118_197, x118_198, x118_199, x118_200, x118_201, x118_204, x118_205, x118_208, x118_209, x118_210, x118_211, x118_214, x118_215, x118_216, x118_219, x118_220, x118_223, x118_224, x118_225, x118_226, x118_227, x118_230, x118_231, x118_234, x118_235, x118_236, x118_237, x118_240, (fcnO_66_0 ho), (fcnO_66_1 ho), (fcnO_66_2 ho), (fcnO_66_3 ho), (fcnO_66_5 ho), if_true, if_false, eq_self, Int.reduceEq, Int.reduceLT, Int.reduceLE, Int.reduceAdd, Int.reduceSub, Int.reduceMul, Int.reduceToNat, Nat.reduceAdd, Nat.reduceMul, Nat.reduceEqDiff, Int.toNat_natCast, wrap_id, hk, selZ, hl, hw]
theorem kw_bits {d o i h l : Nat} {r : Nat} {s : Mem} (hd : 1 ≤ d) (ho : o = 0 ∨ o = 26) (hi : i < 225) (hk : s (67 + o) i = 84) (hm : s (69 + o) i = h) (hr : s (70 + o) i = l) (hl : h ≤ 15 ∧ l ≤ h) : Zc d 118 [aR (66 + o), aI i, aR r] s = rI ((h - l + 1 : Nat) : Int) s := by
  obtain ⟨d, rfl⟩ : ∃ e, d = e + 1 := ⟨d - 1, by omega⟩
  have e : ((h - l + 1 : Nat) : Int) = (h : Int) - l + 1 := by omega
  simp (disch := first | exact (obCO_66 ho) | omega | (simp only [(aN1O_67 ho), (aN1O_68 ho), (aN1O_69 ho), (aN1O_70 ho), (aN1O_72 ho)]; omega) | (simp only [List.length_cons, List.length_nil]; omega)) only [en118, x118_0, x118_1, x118_4, x118_5, x118_6, x118_88, x118_89, x118_92, x118_93, x118_94, x118_97, x118_98, x118_99, x118_100, x118_103, x118_104, x118_105, x118_106, x118_107, x118_108, x118_111, x118_112, x118_113, x118_114, x118_117, x118_118, x118_119, x118_120, x118_121, x118_122, x118_123, x118_124, x118_127, x118_128, x118_131, x118_132, x118_133, x118_134, x118_135, x118_136, x118_137, x118_138, x118_141, x118_142, x118_145, x118_146, x118_147, x118_148, x118_149, x118_152, x118_153, x118_156, x118_157, x118_158, x118_159, x118_160, x118_161, x118_162, x118_165, x118_166, x118_169, x118_170, x118_171, x118_172, x118_173, x118_176, x118_177, x118_180, x118_181, x118_182, x118_183, x118_186, x118_187, x118_188, x118_189, x118_190, x118_193, x118_194, x118_197, x118_198, x118_199, x118_200, x118_201, x118_204, x118_205, x118_208, x118_209, x118_210, x118_211, x118_214, x118_215, x118_216, x118_219, x118_220, x118_223, x118_224, x118_225, x118_226, x118_227, x118_230, x118_231, x118_234, x118_235, x118_236, x118_237, x118_240, (fcnO_66_0 ho), (fcnO_66_1 ho), (fcnO_66_2 ho), (fcnO_66_3 ho), (fcnO_66_5 ho), if_true, if_false, eq_self, Int.reduceEq, Int.reduceLT, Int.reduceLE, Int.reduceAdd, Int.reduceSub, Int.reduceMul, Int.reduceToNat, Nat.reduceAdd, Nat.reduceMul, Nat.reduceEqDiff, Int.toNat_natCast, wrap_id, hk, selZ, hm, hr, e]
theorem kw_mux {d o i a b x y : Nat} {r : Nat} {s : Mem} (hd : 1 ≤ d) (ho : o = 0 ∨ o = 26) (hi : i < 225) (hk : s (67 + o) i = 77) (hm : s (69 + o) i = a) (hr : s (70 + o) i = b) (ha : a < 225) (hb : b < 225) (hx : s (72 + o) a = x) (hy : s (72 + o) b = y) : Zc d 118 [aR (66 + o), aI i, aR r] s = rI ((max x y : Nat) : Int) s := by
  obtain ⟨d, rfl⟩ : ∃ e, d = e + 1 := ⟨d - 1, by omega⟩
  have e : ((max x y : Nat) : Int) = max (x : Int) y := by omega
  simp (disch := first | exact (obCO_66 ho) | omega | (simp only [(aN1O_67 ho), (aN1O_68 ho), (aN1O_69 ho), (aN1O_70 ho), (aN1O_72 ho)]; omega) | (simp only [List.length_cons, List.length_nil]; omega)) only [en118, x118_0, x118_1, x118_4, x118_5, x118_6, x118_88, x118_89, x118_92, x118_93, x118_94, x118_97, x118_98, x118_99, x118_100, x118_103, x118_104, x118_105, x118_106, x118_107, x118_108, x118_111, x118_112, x118_113, x118_114, x118_117, x118_118, x118_119, x118_120, x118_121, x118_122, x118_123, x118_124, x118_127, x118_128, x118_131, x118_132, x118_133, x118_134, x118_135, x118_136, x118_137, x118_138, x118_141, x118_142, x118_145, x118_146, x118_147, x118_148, x118_149, x118_152, x118_153, x118_156, x118_157, x118_158, x118_159, x118_160, x118_161, x118_162, x118_165, x118_166, x118_169, x118_170, x118_171, x118_172, x118_173, x118_176, x118_177, x118_180, x118_181, x118_182, x118_183, x118_186, x118_187, x118_188, x118_189, x118_190, x118_193, x118_194, x118_197, x118_198, x118_199, x118_200, x118_201, x118_204, x118_205, x118_208, x118_209, x118_210, x118_211, x118_214, x118_215, x118_216, x118_219, x118_220, x118_223, x118_224, x118_225, x118_226, x118_227, x118_230, x118_231, x118_234, x118_235, x118_236, x118_237, x118_240, (fcnO_66_0 ho), (fcnO_66_1 ho), (fcnO_66_2 ho), (fcnO_66_3 ho), (fcnO_66_5 ho), if_true, if_false, eq_self, Int.reduceEq, Int.reduceLT, Int.reduceLE, Int.reduceAdd, Int.reduceSub, Int.reduceMul, Int.reduceToNat, Nat.reduceAdd, Nat.reduceMul, Nat.reduceEqDiff, Int.toNat_natCast, wrap_id, hk, selZ, hm, hr, hx, hy, e]
theorem kw_two {d o i c a b x y : Nat} {r : Nat} {s : Mem} (hd : 1 ≤ d) (ho : o = 0 ∨ o = 26) (hi : i < 225) (hc : two c) (hk : s (67 + o) i = c) (hl : s (68 + o) i = a) (hm : s (69 + o) i = b) (ha : a < 225) (hb : b < 225) (hx : s (72 + o) a = x) (hy : s (72 + o) b = y) (hxy : x ≤ 16 ∧ y ≤ 16) : Zc d 118 [aR (66 + o), aI i, aR r] s = rI ((if c = 43 then max x y + 1 else if c = 61 ∨ c = 60 then 1 else if c = 35 then x + y else max x y : Nat) : Int) s := by
  obtain ⟨d, rfl⟩ : ∃ e, d = e + 1 := ⟨d - 1, by omega⟩
  have e : ((max x y : Nat) : Int) = max (x : Int) y := by omega
  have e1 : ((max x y + 1 : Nat) : Int) = max (x : Int) y + 1 := by omega
  have e2 : ((x + y : Nat) : Int) = (x : Int) + y := rfl
  have e3 : ((1 : Nat) : Int) = 1 := rfl
  unfold two at hc
  rcases (by omega : c = 43 ∨ c = 61 ∨ c = 60 ∨ c = 35 ∨ c = 45 ∨ c = 38 ∨ c = 124 ∨ c = 94) with rfl | rfl | rfl | rfl | rfl | rfl | rfl | rfl
  · rw [if_pos rfl, e1]
    have hk' : s (67 + o) i = 43 := hk
    simp (disch := first | exact (obCO_66 ho) | omega | (simp only [(aN1O_67 ho), (aN1O_68 ho), (aN1O_69 ho), (aN1O_70 ho), (aN1O_72 ho)]; omega) | (simp only [List.length_cons, List.length_nil]; omega)) only [en118, x118_0, x118_1, x118_4, x118_5, x118_6, x118_88, x118_89, x118_92, x118_93, x118_94, x118_97, x118_98, x118_99, x118_100, x118_103, x118_104, x118_105, x118_106, x118_107, x118_108, x118_111, x118_112, x118_113, x118_114, x118_117, x118_118, x118_119, x118_120, x118_121, x118_122, x118_123, x118_124, x118_127, x118_128, x118_131, x118_132, x118_133, x118_134, x118_135, x118_136, x118_137, x118_138, x118_141, x118_142, x118_145, x118_146, x118_147, x118_148, x118_149, x118_152, x118_153, x118_156, x118_157, x118_158, x118_159, x118_160, x118_161, x118_162, x118_165, x118_166, x118_169, x118_170, x118_171, x118_172, x118_173, x118_176, x118_177, x118_180, x118_181, x118_182, x118_183, x118_186, x118_187, x118_188, x118_189, x118_190, x118_193, x118_194, x118_197, x118_198, x118_199, x118_200, x118_201, x118_204, x118_205, x118_208, x118_209, x118_210, x118_211, x118_214, x118_215, x118_216, x118_219, x118_220, x118_223, x118_224, x118_225, x118_226, x118_227, x118_230, x118_231, x118_234, x118_235, x118_236, x118_237, x118_240, (fcnO_66_0 ho), (fcnO_66_1 ho), (fcnO_66_2 ho), (fcnO_66_3 ho), (fcnO_66_5 ho), if_true, if_false, eq_self, Int.reduceEq, Int.reduceLT, Int.reduceLE, Int.reduceAdd, Int.reduceSub, Int.reduceMul, Int.reduceToNat, Nat.reduceAdd, Nat.reduceMul, Nat.reduceEqDiff, Int.toNat_natCast, wrap_id, hk', selZ, hl, hm, hx, hy]
  · rw [if_neg (by decide), if_pos (by decide), e3]
    have hk' : s (67 + o) i = 61 := hk
    simp (disch := first | exact (obCO_66 ho) | omega | (simp only [(aN1O_67 ho), (aN1O_68 ho), (aN1O_69 ho), (aN1O_70 ho), (aN1O_72 ho)]; omega) | (simp only [List.length_cons, List.length_nil]; omega)) only [en118, x118_0, x118_1, x118_4, x118_5, x118_6, x118_88, x118_89, x118_92, x118_93, x118_94, x118_97, x118_98, x118_99, x118_100, x118_103, x118_104, x118_105, x118_106, x118_107, x118_108, x118_111, x118_112, x118_113, x118_114, x118_117, x118_118, x118_119, x118_120, x118_121, x118_122, x118_123, x118_124, x118_127, x118_128, x118_131, x118_132, x118_133, x118_134, x118_135, x118_136, x118_137, x118_138, x118_141, x118_142, x118_145, x118_146, x118_147, x118_148, x118_149, x118_152, x118_153, x118_156, x118_157, x118_158, x118_159, x118_160, x118_161, x118_162, x118_165, x118_166, x118_169, x118_170, x118_171, x118_172, x118_173, x118_176, x118_177, x118_180, x118_181, x118_182, x118_183, x118_186, x118_187, x118_188, x118_189, x118_190, x118_193, x118_194, x118_197, x118_198, x118_199, x118_200, x118_201, x118_204, x118_205, x118_208, x118_209, x118_210, x118_211, x118_214, x118_215, x118_216, x118_219, x118_220, x118_223, x118_224, x118_225, x118_226, x118_227, x118_230, x118_231, x118_234, x118_235, x118_236, x118_237, x118_240, (fcnO_66_0 ho), (fcnO_66_1 ho), (fcnO_66_2 ho), (fcnO_66_3 ho), (fcnO_66_5 ho), if_true, if_false, eq_self, Int.reduceEq, Int.reduceLT, Int.reduceLE, Int.reduceAdd, Int.reduceSub, Int.reduceMul, Int.reduceToNat, Nat.reduceAdd, Nat.reduceMul, Nat.reduceEqDiff, Int.toNat_natCast, wrap_id, hk', selZ]
  · rw [if_neg (by decide), if_pos (by decide), e3]
    have hk' : s (67 + o) i = 60 := hk
    simp (disch := first | exact (obCO_66 ho) | omega | (simp only [(aN1O_67 ho), (aN1O_68 ho), (aN1O_69 ho), (aN1O_70 ho), (aN1O_72 ho)]; omega) | (simp only [List.length_cons, List.length_nil]; omega)) only [en118, x118_0, x118_1, x118_4, x118_5, x118_6, x118_88, x118_89, x118_92, x118_93, x118_94, x118_97, x118_98, x118_99, x118_100, x118_103, x118_104, x118_105, x118_106, x118_107, x118_108, x118_111, x118_112, x118_113, x118_114, x118_117, x118_118, x118_119, x118_120, x118_121, x118_122, x118_123, x118_124, x118_127, x118_128, x118_131, x118_132, x118_133, x118_134, x118_135, x118_136, x118_137, x118_138, x118_141, x118_142, x118_145, x118_146, x118_147, x118_148, x118_149, x118_152, x118_153, x118_156, x118_157, x118_158, x118_159, x118_160, x118_161, x118_162, x118_165, x118_166, x118_169, x118_170, x118_171, x118_172, x118_173, x118_176, x118_177, x118_180, x118_181, x118_182, x118_183, x118_186, x118_187, x118_188, x118_189, x118_190, x118_193, x118_194, x118_197, x118_198, x118_199, x118_200, x118_201, x118_204, x118_205, x118_208, x118_209, x118_210, x118_211, x118_214, x118_215, x118_216, x118_219, x118_220, x118_223, x118_224, x118_225, x118_226, x118_227, x118_230, x118_231, x118_234, x118_235, x118_236, x118_237, x118_240, (fcnO_66_0 ho), (fcnO_66_1 ho), (fcnO_66_2 ho), (fcnO_66_3 ho), (fcnO_66_5 ho), if_true, if_false, eq_self, Int.reduceEq, Int.reduceLT, Int.reduceLE, Int.reduceAdd, Int.reduceSub, Int.reduceMul, Int.reduceToNat, Nat.reduceAdd, Nat.reduceMul, Nat.reduceEqDiff, Int.toNat_natCast, wrap_id, hk', selZ]
  · rw [if_neg (by decide), if_neg (by decide), if_pos rfl, e2]
    have hk' : s (67 + o) i = 35 := hk
    simp (disch := first | exact (obCO_66 ho) | omega | (simp only [(aN1O_67 ho), (aN1O_68 ho), (aN1O_69 ho), (aN1O_70 ho), (aN1O_72 ho)]; omega) | (simp only [List.length_cons, List.length_nil]; omega)) only [en118, x118_0, x118_1, x118_4, x118_5, x118_6, x118_88, x118_89, x118_92, x118_93, x118_94, x118_97, x118_98, x118_99, x118_100, x118_103, x118_104, x118_105, x118_106, x118_107, x118_108, x118_111, x118_112, x118_113, x118_114, x118_117, x118_118, x118_119, x118_120, x118_121, x118_122, x118_123, x118_124, x118_127, x118_128, x118_131, x118_132, x118_133, x118_134, x118_135, x118_136, x118_137, x118_138, x118_141, x118_142, x118_145, x118_146, x118_147, x118_148, x118_149, x118_152, x118_153, x118_156, x118_157, x118_158, x118_159, x118_160, x118_161, x118_162, x118_165, x118_166, x118_169, x118_170, x118_171, x118_172, x118_173, x118_176, x118_177, x118_180, x118_181, x118_182, x118_183, x118_186, x118_187, x118_188, x118_189, x118_190, x118_193, x118_194, x118_197, x118_198, x118_199, x118_200, x118_201, x118_204, x118_205, x118_208, x118_209, x118_210, x118_211, x118_214, x118_215, x118_216, x118_219, x118_220, x118_223, x118_224, x118_225, x118_226, x118_227, x118_230, x118_231, x118_234, x118_235, x118_236, x118_237, x118_240, (fcnO_66_0 ho), (fcnO_66_1 ho), (fcnO_66_2 ho), (fcnO_66_3 ho), (fcnO_66_5 ho), if_true, if_false, eq_self, Int.reduceEq, Int.reduceLT, Int.reduceLE, Int.reduceAdd, Int.reduceSub, Int.reduceMul, Int.reduceToNat, Nat.reduceAdd, Nat.reduceMul, Nat.reduceEqDiff, Int.toNat_natCast, wrap_id, hk', selZ, hl, hm, hx, hy]
  · rw [if_neg (by decide), if_neg (by decide), if_neg (by decide), e]
    have hk' : s (67 + o) i = 45 := hk
    simp (disch := first | exact (obCO_66 ho) | omega | (simp only [(aN1O_67 ho), (aN1O_68 ho), (aN1O_69 ho), (aN1O_70 ho), (aN1O_72 ho)]; omega) | (simp only [List.length_cons, List.length_nil]; omega)) only [en118, x118_0, x118_1, x118_4, x118_5, x118_6, x118_88, x118_89, x118_92, x118_93, x118_94, x118_97, x118_98, x118_99, x118_100, x118_103, x118_104, x118_105, x118_106, x118_107, x118_108, x118_111, x118_112, x118_113, x118_114, x118_117, x118_118, x118_119, x118_120, x118_121, x118_122, x118_123, x118_124, x118_127, x118_128, x118_131, x118_132, x118_133, x118_134, x118_135, x118_136, x118_137, x118_138, x118_141, x118_142, x118_145, x118_146, x118_147, x118_148, x118_149, x118_152, x118_153, x118_156, x118_157, x118_158, x118_159, x118_160, x118_161, x118_162, x118_165, x118_166, x118_169, x118_170, x118_171, x118_172, x118_173, x118_176, x118_177, x118_180, x118_181, x118_182, x118_183, x118_186, x118_187, x118_188, x118_189, x118_190, x118_193, x118_194, x118_197, x118_198, x118_199, x118_200, x118_201, x118_204, x118_205, x118_208, x118_209, x118_210, x118_211, x118_214, x118_215, x118_216, x118_219, x118_220, x118_223, x118_224, x118_225, x118_226, x118_227, x118_230, x118_231, x118_234, x118_235, x118_236, x118_237, x118_240, (fcnO_66_0 ho), (fcnO_66_1 ho), (fcnO_66_2 ho), (fcnO_66_3 ho), (fcnO_66_5 ho), if_true, if_false, eq_self, Int.reduceEq, Int.reduceLT, Int.reduceLE, Int.reduceAdd, Int.reduceSub, Int.reduceMul, Int.reduceToNat, Nat.reduceAdd, Nat.reduceMul, Nat.reduceEqDiff, Int.toNat_natCast, wrap_id, hk', selZ, hl, hm, hx, hy]
  · rw [if_neg (by decide), if_neg (by decide), if_neg (by decide), e]
    have hk' : s (67 + o) i = 38 := hk
    simp (disch := first | exact (obCO_66 ho) | omega | (simp only [(aN1O_67 ho), (aN1O_68 ho), (aN1O_69 ho), (aN1O_70 ho), (aN1O_72 ho)]; omega) | (simp only [List.length_cons, List.length_nil]; omega)) only [en118, x118_0, x118_1, x118_4, x118_5, x118_6, x118_88, x118_89, x118_92, x118_93, x118_94, x118_97, x118_98, x118_99, x118_100, x118_103, x118_104, x118_105, x118_106, x118_107, x118_108, x118_111, x118_112, x118_113, x118_114, x118_117, x118_118, x118_119, x118_120, x118_121, x118_122, x118_123, x118_124, x118_127, x118_128, x118_131, x118_132, x118_133, x118_134, x118_135, x118_136, x118_137, x118_138, x118_141, x118_142, x118_145, x118_146, x118_147, x118_148, x118_149, x118_152, x118_153, x118_156, x118_157, x118_158, x118_159, x118_160, x118_161, x118_162, x118_165, x118_166, x118_169, x118_170, x118_171, x118_172, x118_173, x118_176, x118_177, x118_180, x118_181, x118_182, x118_183, x118_186, x118_187, x118_188, x118_189, x118_190, x118_193, x118_194, x118_197, x118_198, x118_199, x118_200, x118_201, x118_204, x118_205, x118_208, x118_209, x118_210, x118_211, x118_214, x118_215, x118_216, x118_219, x118_220, x118_223, x118_224, x118_225, x118_226, x118_227, x118_230, x118_231, x118_234, x118_235, x118_236, x118_237, x118_240, (fcnO_66_0 ho), (fcnO_66_1 ho), (fcnO_66_2 ho), (fcnO_66_3 ho), (fcnO_66_5 ho), if_true, if_false, eq_self, Int.reduceEq, Int.reduceLT, Int.reduceLE, Int.reduceAdd, Int.reduceSub, Int.reduceMul, Int.reduceToNat, Nat.reduceAdd, Nat.reduceMul, Nat.reduceEqDiff, Int.toNat_natCast, wrap_id, hk', selZ, hl, hm, hx, hy]
  · rw [if_neg (by decide), if_neg (by decide), if_neg (by decide), e]
    have hk' : s (67 + o) i = 124 := hk
    simp (disch := first | exact (obCO_66 ho) | omega | (simp only [(aN1O_67 ho), (aN1O_68 ho), (aN1O_69 ho), (aN1O_70 ho), (aN1O_72 ho)]; omega) | (simp only [List.length_cons, List.length_nil]; omega)) only [en118, x118_0, x118_1, x118_4, x118_5, x118_6, x118_88, x118_89, x118_92, x118_93, x118_94, x118_97, x118_98, x118_99, x118_100, x118_103, x118_104, x118_105, x118_106, x118_107, x118_108, x118_111, x118_112, x118_113, x118_114, x118_117, x118_118, x118_119, x118_120, x118_121, x118_122, x118_123, x118_124, x118_127, x118_128, x118_131, x118_132, x118_133, x118_134, x118_135, x118_136, x118_137, x118_138, x118_141, x118_142, x118_145, x118_146, x118_147, x118_148, x118_149, x118_152, x118_153, x118_156, x118_157, x118_158, x118_159, x118_160, x118_161, x118_162, x118_165, x118_166, x118_169, x118_170, x118_171, x118_172, x118_173, x118_176, x118_177, x118_180, x118_181, x118_182, x118_183, x118_186, x118_187, x118_188, x118_189, x118_190, x118_193, x118_194, x118_197, x118_198, x118_199, x118_200, x118_201, x118_204, x118_205, x118_208, x118_209, x118_210, x118_211, x118_214, x118_215, x118_216, x118_219, x118_220, x118_223, x118_224, x118_225, x118_226, x118_227, x118_230, x118_231, x118_234, x118_235, x118_236, x118_237, x118_240, (fcnO_66_0 ho), (fcnO_66_1 ho), (fcnO_66_2 ho), (fcnO_66_3 ho), (fcnO_66_5 ho), if_true, if_false, eq_self, Int.reduceEq, Int.reduceLT, Int.reduceLE, Int.reduceAdd, Int.reduceSub, Int.reduceMul, Int.reduceToNat, Nat.reduceAdd, Nat.reduceMul, Nat.reduceEqDiff, Int.toNat_natCast, wrap_id, hk', selZ, hl, hm, hx, hy]
  · rw [if_neg (by decide), if_neg (by decide), if_neg (by decide), e]
    have hk' : s (67 + o) i = 94 := hk
    simp (disch := first | exact (obCO_66 ho) | omega | (simp only [(aN1O_67 ho), (aN1O_68 ho), (aN1O_69 ho), (aN1O_70 ho), (aN1O_72 ho)]; omega) | (simp only [List.length_cons, List.length_nil]; omega)) only [en118, x118_0, x118_1, x118_4, x118_5, x118_6, x118_88, x118_89, x118_92, x118_93, x118_94, x118_97, x118_98, x118_99, x118_100, x118_103, x118_104, x118_105, x118_106, x118_107, x118_108, x118_111, x118_112, x118_113, x118_114, x118_117, x118_118, x118_119, x118_120, x118_121, x118_122, x118_123, x118_124, x118_127, x118_128, x118_131, x118_132, x118_133, x118_134, x118_135, x118_136, x118_137, x118_138, x118_141, x118_142, x118_145, x118_146, x118_147, x118_148, x118_149, x118_152, x118_153, x118_156, x118_157, x118_158, x118_159, x118_160, x118_161, x118_162, x118_165, x118_166, x118_169, x118_170, x118_171, x118_172, x118_173, x118_176, x118_177, x118_180, x118_181, x118_182, x118_183, x118_186, x118_187, x118_188, x118_189, x118_190, x118_193, x118_194, x118_197, x118_198, x118_199, x118_200, x118_201, x118_204, x118_205, x118_208, x118_209, x118_210, x118_211, x118_214, x118_215, x118_216, x118_219, x118_220, x118_223, x118_224, x118_225, x118_226, x118_227, x118_230, x118_231, x118_234, x118_235, x118_236, x118_237, x118_240, (fcnO_66_0 ho), (fcnO_66_1 ho), (fcnO_66_2 ho), (fcnO_66_3 ho), (fcnO_66_5 ho), if_true, if_false, eq_self, Int.reduceEq, Int.reduceLT, Int.reduceLE, Int.reduceAdd, Int.reduceSub, Int.reduceMul, Int.reduceToNat, Nat.reduceAdd, Nat.reduceMul, Nat.reduceEqDiff, Int.toNat_natCast, wrap_id, hk', selZ, hl, hm, hx, hy]
/-- the widths of all expressions whose whole lies below i are found -/
def WAc (s : Mem) (o : Nat) (W : Nat → Nat) (i : Nat) : Prop := ∀ (e : Jvm.Term) (m : Nat), CR s o e m → 25 ≤ m → m + esz e ≤ i → s (72 + o) (m + esz e - 1) = wE W e ∧ ¬ tw W e
def SWc (s : Mem) (o L : Nat) (W : Nat → Nat) : Prop := ∀ g, g < L → s (62 + o) g = W g ∧ W g ≤ 16
theorem tw_16 {W : Nat → Nat} {e : Jvm.Term} (h : ¬ tw W e) : wE W e ≤ 16 := by
  refine Decidable.byContradiction fun z => h ?_
  unfold tw
  split
  · exact Or.inl (by omega)
  · exact Or.inl (by omega)
  · exact Or.inl (by omega)
  · exact Or.inl (by omega)
  · omega
theorem k_widthOf {d o i m L : Nat} {W : Nat → Nat} {e : Jvm.Term} {s : Mem} (hd : 2 ≤ d) (ho : o = 0 ∨ o = 26) (hL : L ≤ 24) : CR s o e m → 25 ≤ m → m + esz e = i + 1 → i < 225 → WAc s o W i → SWc s o L W → ixb L e → Zc d 118 [aR (66 + o), aI i, aR (62 + o)] s = rI (wE W e) s ∧ (tw W e → 16 < wE W e) := by
  fun_cases CR s o e m with
  | case1 a =>
    rintro ⟨h1, h2, h3, h4⟩ hm hi hi2 hW hS hx
    have hp := esz_pos a
    have he : esz (.old a) = 1 + esz a := rfl
    obtain ⟨w1, w2⟩ := hW a m h4 hm (by omega)
    rw [show m + esz a = i by omega] at h1 h2
    refine ⟨kw_not (by omega) ho hi2 h1 (h2.trans (by rw [show i - 1 = m + esz a - 1 by omega])) (by omega) w1, fun z => ?_⟩
    rcases z with z | z
    · exact z
    · exact absurd z w2
  | case2 h l a =>
    rintro ⟨h1, h2, h3, h4, h5, h6, h7⟩ hm hi hi2 hW hS hx
    have hp := esz_pos a
    have he : esz (.mul (.add (.arg h) (.arg l)) a) = 1 + esz a := rfl
    obtain ⟨w1, w2⟩ := hW a m h7 hm (by omega)
    rw [show m + esz a = i by omega] at h1 h3 h4
    refine ⟨kw_bits (by omega) ho hi2 h1 h3 h4 h5, fun z => ?_⟩
    rcases z with z | z
    · exact z
    · exact absurd z w2
  | case3 c a b =>
    rintro ⟨h1, h2, h3, h4, h5, h6, h7⟩ hm hi hi2 hW hS hx
    have hp := esz_pos a
    have hp2 := esz_pos b
    have he : esz (.div (.arg c) (.rem a b)) = 1 + esz a + esz b := rfl
    obtain ⟨w1, w2⟩ := hW a m h6 hm (by omega)
    obtain ⟨v1, v2⟩ := hW b (m + esz a) h7 (by omega) (by omega)
    rw [show m + esz a + esz b = i by omega] at h1 h3 h4
    refine ⟨kw_two (by omega) ho hi2 h2 h1 h3 h4 (by omega) (by omega) w1 (by rw [← show m + esz a + esz b = i by omega]; exact v1) ⟨tw_16 w2, tw_16 v2⟩, fun z => ?_⟩
    rcases z with z | z | z
    · exact z
    · exact absurd z w2
    · exact absurd z v2
  | case4 c a b =>
    rintro ⟨h1, h2, h3, h4, h5, h6, h7, h8⟩ hm hi hi2 hW hS hx
    have hp := esz_pos a
    have hp2 := esz_pos b
    have hp3 := esz_pos c
    have he : esz (.sub c (.rem a b)) = 1 + esz c + esz a + esz b := rfl
    obtain ⟨u1, u2⟩ := hW c m h6 hm (by omega)
    obtain ⟨w1, w2⟩ := hW a (m + esz c) h7 (by omega) (by omega)
    obtain ⟨v1, v2⟩ := hW b (m + esz c + esz a) h8 (by omega) (by omega)
    rw [show m + esz c + esz a + esz b = i by omega] at h1 h3 h4
    refine ⟨kw_mux (by omega) ho hi2 h1 h3 h4 (by omega) (by omega) w1 (by rw [← show m + esz c + esz a + esz b = i by omega]; exact v1), fun z => ?_⟩
    rcases z with z | z | z | z
    · exact z
    · exact absurd z u2
    · exact absurd z w2
    · exact absurd z v2
  | case5 g =>
    rintro ⟨h1, h2, h3, h4⟩ hm hi hi2 hW hS hx
    have he : esz (.index g) = 1 := rfl
    have : m = i := by omega
    subst this
    exact ⟨kw_idx (by omega) ho hi2 h1 h2 h3 (hS g hx).1, fun z => z⟩
  | case6 v =>
    rintro ⟨h1, h2, h3, h4⟩ hm hi hi2 hW hS hx
    have he : esz (.arg v) = 1 := rfl
    have : m = i := by omega
    subst this
    exact ⟨kw_num hd ho hi2 h1 h2 (by omega), fun z => z⟩
  | case7 => exact fun h => h.elim
theorem CR_at {s : Mem} {o i : Nat} {e : Jvm.Term} {n : Nat} : CR s o e n → n ≤ i → i < n + esz e → ∃ (e0 : Jvm.Term) (m : Nat), CR s o e0 m ∧ n ≤ m ∧ m + esz e0 = i + 1 ∧ (∀ W, tw W e0 → tw W e) ∧ (∀ L, ixb L e → ixb L e0) := by
  fun_induction CR s o e n with
  | case1 a n ih =>
    rintro h hn hi
    have hp := esz_pos a
    have he : esz (.old a) = 1 + esz a := rfl
    by_cases hl : i < n + esz a
    · obtain ⟨e0, m, g1, g2, g3, g4, g5⟩ := ih h.2.2.2 hn hl
      exact ⟨e0, m, g1, g2, g3, fun W z => Or.inr (g4 W z), fun L z => g5 L z⟩
    · exact ⟨.old a, n, h, Nat.le_refl _, by omega, fun _ z => z, fun _ z => z⟩
  | case2 h0 l a n ih =>
    rintro h hn hi
    have hp := esz_pos a
    have he : esz (.mul (.add (.arg h0) (.arg l)) a) = 1 + esz a := rfl
    by_cases hl : i < n + esz a
    · obtain ⟨e0, m, g1, g2, g3, g4, g5⟩ := ih h.2.2.2.2.2.2 hn hl
      exact ⟨e0, m, g1, g2, g3, fun W z => Or.inr (g4 W z), fun L z => g5 L z⟩
    · exact ⟨.mul (.add (.arg h0) (.arg l)) a, n, h, Nat.le_refl _, by omega, fun _ z => z, fun _ z => z⟩
  | case3 c a b n ih1 ih2 =>
    rintro h hn hi
    have hp := esz_pos a
    have hp2 := esz_pos b
    have he : esz (.div (.arg c) (.rem a b)) = 1 + esz a + esz b := rfl
    by_cases hl : i < n + esz a
    · obtain ⟨e0, m, g1, g2, g3, g4, g5⟩ := ih1 h.2.2.2.2.2.1 hn hl
      exact ⟨e0, m, g1, g2, g3, fun W z => Or.inr (Or.inl (g4 W z)), fun L z => g5 L z.1⟩
    · by_cases hl2 : i < n + esz a + esz b
      · obtain ⟨e0, m, g1, g2, g3, g4, g5⟩ := ih2 h.2.2.2.2.2.2 (by omega) hl2
        exact ⟨e0, m, g1, by omega, g3, fun W z => Or.inr (Or.inr (g4 W z)), fun L z => g5 L z.2⟩
      · exact ⟨.div (.arg c) (.rem a b), n, h, Nat.le_refl _, by omega, fun _ z => z, fun _ z => z⟩
  | case4 c a b n ih1 ih2 ih3 =>
    rintro h hn hi
    have hp := esz_pos a
    have hp2 := esz_pos b
    have hp3 := esz_pos c
    have he : esz (.sub c (.rem a b)) = 1 + esz c + esz a + esz b := rfl
    by_cases hl0 : i < n + esz c
    · obtain ⟨e0, m, g1, g2, g3, g4, g5⟩ := ih1 h.2.2.2.2.2.1 hn hl0
      exact ⟨e0, m, g1, g2, g3, fun W z => Or.inr (Or.inl (g4 W z)), fun L z => g5 L z.1⟩
    · by_cases hl : i < n + esz c + esz a
      · obtain ⟨e0, m, g1, g2, g3, g4, g5⟩ := ih2 h.2.2.2.2.2.2.1 (by omega) hl
        exact ⟨e0, m, g1, by omega, g3, fun W z => Or.inr (Or.inr (Or.inl (g4 W z))), fun L z => g5 L z.2.1⟩
      · by_cases hl2 : i < n + esz c + esz a + esz b
        · obtain ⟨e0, m, g1, g2, g3, g4, g5⟩ := ih3 h.2.2.2.2.2.2.2 (by omega) hl2
          exact ⟨e0, m, g1, by omega, g3, fun W z => Or.inr (Or.inr (Or.inr (g4 W z))), fun L z => g5 L z.2.2⟩
        · exact ⟨.sub c (.rem a b), n, h, Nat.le_refl _, by omega, fun _ z => z, fun _ z => z⟩
  | case5 g n =>
    rintro h hn hi
    have he : esz (.index g) = 1 := rfl
    exact ⟨.index g, n, h, Nat.le_refl _, by omega, fun _ z => z, fun _ z => z⟩
  | case6 v n =>
    rintro h hn hi
    have he : esz (.arg v) = 1 := rfl
    exact ⟨.arg v, n, h, Nat.le_refl _, by omega, fun _ z => z, fun _ z => z⟩
  | case7 => exact fun h => h.elim
theorem CVc_at {s : Mem} {o L i N : Nat} : ∀ (cv : List (Option Jvm.Term)) (n : Nat), CVc s o L n cv N → n ≤ i → i < N → (s (67 + o) i = 5 ∧ ∃ g : Nat, s (68 + o) i = g ∧ g < L) ∨ ∃ (e0 : Jvm.Term) (m : Nat), CR s o e0 m ∧ n ≤ m ∧ m + esz e0 = i + 1 ∧ (∀ W, tw W e0 → twA W cv) ∧ (∀ L, (∀ e, some e ∈ cv → ixb L e) → ixb L e0)
  | [], n, h, h1, h2 => by
    have : n = N := h
    omega
  | none :: r, n, ⟨h0, h3, h4⟩, h1, h2 => by
    by_cases hi : i = n
    · subst hi
      exact Or.inl ⟨h0, h3⟩
    · rcases CVc_at r (n + 1) h4 (by omega) h2 with h | ⟨e0, m, g1, g2, g3, g4, g5⟩
      · exact Or.inl h
      · exact Or.inr ⟨e0, m, g1, by omega, g3, fun W z => by obtain ⟨e, a, b⟩ := g4 W z; exact ⟨e, List.mem_cons_of_mem _ a, b⟩, fun L z => g5 L (fun e he => z e (List.mem_cons_of_mem _ he))⟩
  | some e :: r, n, ⟨h3, h4⟩, h1, h2 => by
    by_cases hi : i < n + esz e
    · obtain ⟨e0, m, g1, g2, g3, g4, g5⟩ := CR_at h3 h1 hi
      exact Or.inr ⟨e0, m, g1, g2, g3, fun W z => ⟨e, List.mem_cons_self, g4 W z⟩, fun L z => g5 L (z e List.mem_cons_self)⟩
    · rcases CVc_at r (n + esz e) h4 (by omega) h2 with h | ⟨e0, m, g1, g2, g3, g4, g5⟩
      · exact Or.inl h
      · exact Or.inr ⟨e0, m, g1, by omega, g3, fun W z => by obtain ⟨e, a, b⟩ := g4 W z; exact ⟨e, List.mem_cons_of_mem _ a, b⟩, fun L z => g5 L (fun e he => z e (List.mem_cons_of_mem _ he))⟩
theorem CR_inv {s : Mem} {o : Nat} {e : Jvm.Term} {n : Nat} (h : CR s o e n) :
    (s (67 + o) (n + esz e - 1) = 33 ∧ ∃ a, e = .old a ∧ CR s o a n) ∨
    (s (67 + o) (n + esz e - 1) = 84 ∧ ∃ (p q : Nat) (a : Jvm.Term), e = .mul (.add (.arg p) (.arg q)) a ∧ s (69 + o) (n + esz e - 1) = p ∧ s (70 + o) (n + esz e - 1) = q ∧ CR s o a n) ∨
    (∃ (c : Nat) (a b : Jvm.Term), e = .div (.arg c) (.rem a b) ∧ s (67 + o) (n + esz e - 1) = c ∧ two c ∧ s (68 + o) (n + esz e - 1) = ((n + esz a - 1 : Nat) : Int) ∧ CR s o a n ∧ CR s o b (n + esz a)) ∨
    (s (67 + o) (n + esz e - 1) = 77 ∧ ∃ (c a b : Jvm.Term), e = .sub c (.rem a b) ∧ s (68 + o) (n + esz e - 1) = ((n + esz c - 1 : Nat) : Int) ∧ s (69 + o) (n + esz e - 1) = ((n + esz c + esz a - 1 : Nat) : Int) ∧ CR s o c n ∧ CR s o a (n + esz c) ∧ CR s o b (n + esz c + esz a)) ∨
    (s (67 + o) (n + esz e - 1) = 5 ∧ ∃ g : Nat, e = .index g ∧ s (68 + o) (n + esz e - 1) = g) ∨
    (s (67 + o) (n + esz e - 1) = 2 ∧ ∃ v : Nat, e = .arg v ∧ s (68 + o) (n + esz e - 1) = v) := by
  revert h
  fun_cases CR s o e n with
  | case1 a =>
    rintro ⟨h1, h2, h3, h4⟩
    simp only [esz]
    rw [show n + (1 + esz a) - 1 = n + esz a by omega]
    exact Or.inl ⟨h1, a, rfl, h4⟩
  | case2 h l a =>
    rintro ⟨h1, h2, h3, h4, h5, h6, h7⟩
    simp only [esz]
    rw [show n + (1 + esz a) - 1 = n + esz a by omega]
    exact Or.inr (Or.inl ⟨h1, h, l, a, rfl, h3, h4, h7⟩)
  | case3 c a b =>
    rintro ⟨h1, h2, h3, h4, h5, h6, h7⟩
    simp only [esz]
    rw [show n + (1 + esz a + esz b) - 1 = n + esz a + esz b by omega]
    exact Or.inr (Or.inr (Or.inl ⟨c, a, b, rfl, h1, h2, h3, h6, h7⟩))
  | case4 c a b =>
    rintro ⟨h1, h2, h3, h4, h5, h6, h7, h8⟩
    simp only [esz]
    rw [show n + (1 + esz c + esz a + esz b) - 1 = n + esz c + esz a + esz b by omega]
    exact Or.inr (Or.inr (Or.inr (Or.inl ⟨h1, c, a, b, rfl, h2, h3, h6, h7, h8⟩)))
  | case5 g =>
    rintro ⟨h1, h2, h3, h4⟩
    exact Or.inr (Or.inr (Or.inr (Or.inr (Or.inl ⟨h1, g, rfl, h2⟩))))
  | case6 v =>
    rintro ⟨h1, h2, h3, h4⟩
    exact Or.inr (Or.inr (Or.inr (Or.inr (Or.inr ⟨h1, v, rfl, h2⟩))))
  | case7 => exact fun h => h.elim
theorem CR_uniq {s : Mem} {o : Nat} : ∀ (k : Nat) (e e' : Jvm.Term) (n : Nat), esz e ≤ k → CR s o e n → CR s o e' n → esz e = esz e' → e = e' := by
  intro k
  induction k with
  | zero =>
    intro e e' n hk
    have := esz_pos e
    omega
  | succ k ih =>
    intro e e' n hk h h' hz
    have hi := CR_inv h
    have hi' := CR_inv h'
    rw [← hz] at hi'
    generalize hr : n + esz e - 1 = r at hi hi'
    rcases hi with ⟨o1, a, rfl, i1⟩ | ⟨o1, p, q, a, rfl, i1, i2, i3⟩ | ⟨c, a, b, rfl, o1, i0, i1, i2, i3⟩ | ⟨o1, c, a, b, rfl, i1, i2, i3, i4, i5⟩ | ⟨o1, g, rfl, i1⟩ | ⟨o1, v, rfl, i1⟩ <;>
    rcases hi' with ⟨o2, a', rfl, j1⟩ | ⟨o2, p', q', a', rfl, j1, j2, j3⟩ | ⟨c', a', b', rfl, o2, j0, j1, j2, j3⟩ | ⟨o2, c', a', b', rfl, j1, j2, j3, j4, j5⟩ | ⟨o2, g', rfl, j1⟩ | ⟨o2, v', rfl, j1⟩ <;>
    first
      | (exfalso; unfold two at *; omega)
      | skip
    · simp only [esz] at hz hk
      rw [ih a a' n (by omega) i1 j1 (by omega)]
    · simp only [esz] at hz hk
      rw [ih a a' n (by omega) i3 j3 (by omega), show p = p' by omega, show q = q' by omega]
    · simp only [esz] at hz hk
      have := esz_pos a
      have := esz_pos a'
      have ha := ih a a' n (by omega) i2 j2 (by omega)
      subst ha
      rw [ih b b' (n + esz a) (by omega) i3 j3 (by omega), show c = c' by omega]
    · simp only [esz] at hz hk
      have := esz_pos a
      have := esz_pos a'
      have := esz_pos c
      have := esz_pos c'
      have hc := ih c c' n (by omega) i3 j3 (by omega)
      subst hc
      have ha := ih a a' (n + esz c) (by omega) i4 j4 (by omega)
      subst ha
      rw [ih b b' (n + esz c + esz a) (by omega) i5 j5 (by omega)]
    · rw [show g = g' by omega]
    · rw [show v = v' by omega]
theorem CR_first25 {s : Mem} {o : Nat} {e : Jvm.Term} {n : Nat} (h : CR s o e n) : 1 ≤ esz e := esz_pos e
theorem WAc_put {s : Mem} {o i : Nat} {v : Int} {W : Nat → Nat} (h : WAc s o W i) : WAc (mu s (72 + o) i v) o W i := by
  intro e m hc hm hi
  have hp := esz_pos e
  have hc' : CR s o e m := CR_put hc (fun k j hk _ _ => (mu_c (by omega)).symm)
  obtain ⟨g1, g2⟩ := h e m hc' hm hi
  exact ⟨by rw [mu_i (by omega), g1], g2⟩
def WNF (o N k j : Nat) : Prop := k = 72 + o ∧ 25 ≤ j ∧ j < N
theorem ms_step {d o i N : Nat} {w : Nat} {s : Mem} (ho : o = 0 ∨ o = 26) (hN : s (66 + o) 7 = N) (hi : i < N) (hN2 : N ≤ 225) (e : Zc d 118 [aR (66 + o), aI i, aR (62 + o)] s = rI w s) : Ze d 117 3 [aR (66 + o), aR (62 + o), aI i] [] s = if 16 < w then rI 0 (mu s (72 + o) i w) else Ze d 117 3 [aR (66 + o), aR (62 + o), aI ((i + 1 : Nat) : Int)] [] (mu s (72 + o) i w) := by
  rw [x117_3, show ((i + 1 : Nat) : Int) = (i : Int) + 1 from rfl]
  by_cases hw : 16 < w
  · rw [if_pos hw]
    simp (disch := first | exact (obCO_66 ho) | omega | (simp only [(aN1O_72 ho)]; omega) | (simp only [List.length_cons, List.length_nil]; omega)) only [en117, x117_0, x117_2, x117_4, x117_5, x117_8, x117_11, x117_12, x117_15, x117_16, x117_17, x117_18, x117_19, x117_22, x117_23, x117_24, x117_27, x117_28, x117_29, x117_31, x117_34, x117_35, x117_36, x117_39, x117_42, x117_43, (fcnO_66_5 ho), if_true, if_false, eq_self, Int.reduceEq, Int.reduceLT, Int.reduceLE, Int.reduceAdd, Int.reduceSub, Int.reduceMul, Int.reduceToNat, Nat.reduceAdd, Nat.reduceMul, Nat.reduceEqDiff, Int.toNat_natCast, wrap_id, hN, if_pos (show (i : Int) < N by omega), e, zcI_r, mu_s, if_pos (show (16 : Int) < w by omega)]
  · rw [if_neg hw]
    simp (disch := first | exact (obCO_66 ho) | omega | (simp only [(aN1O_72 ho)]; omega) | (simp only [List.length_cons, List.length_nil]; omega)) only [en117, x117_0, x117_2, x117_4, x117_5, x117_8, x117_11, x117_12, x117_15, x117_16, x117_17, x117_18, x117_19, x117_22, x117_23, x117_24, x117_27, x117_28, x117_29, x117_31, x117_34, x117_35, x117_36, x117_39, x117_42, x117_43, (fcnO_66_5 ho), if_true, if_false, eq_self, Int.reduceEq, Int.reduceLT, Int.reduceLE, Int.reduceAdd, Int.reduceSub, Int.reduceMul, Int.reduceToNat, Nat.reduceAdd, Nat.reduceMul, Nat.reduceEqDiff, Int.toNat_natCast, wrap_id, hN, if_pos (show (i : Int) < N by omega), e, zcI_r, mu_s, if_neg (show ¬ (16 : Int) < w by omega)]
theorem ms_loop {d o L N : Nat} {W : Nat → Nat} {cv : List (Option Jvm.Term)} (hd : 2 ≤ d) (ho : o = 0 ∨ o = 26) (hL : L ≤ 24) (hN2 : N ≤ 225) (hix : ∀ e, some e ∈ cv → ixb L e) : ∀ (m i : Nat) (s : Mem), i + m = N → 25 ≤ i → s (66 + o) 7 = N → CVc s o L 25 cv N → WAc s o W i → SWc s o L W →
    (∃ s', Ze d 117 3 [aR (66 + o), aR (62 + o), aI i] [] s = rI 1 s' ∧ WAc s' o W N ∧ Fr (WNF o N) s s') ∨ (twA W cv ∧ ∃ s', Ze d 117 3 [aR (66 + o), aR (62 + o), aI i] [] s = rI 0 s' ∧ Fr (WNF o N) s s') := by
  intro m
  induction m with
  | zero =>
    intro i s hi hi25 hN hcv hW hS
    have : i = N := by omega
    subst this
    left
    refine ⟨s, ?_, hW, Fr.rf s⟩
    rw [x117_3]
    simp (disch := first | exact (obCO_66 ho) | omega | (simp only [(aN1O_72 ho)]; omega) | (simp only [List.length_cons, List.length_nil]; omega)) only [en117, x117_0, x117_2, x117_4, x117_5, x117_8, x117_11, x117_12, x117_15, x117_16, x117_17, x117_18, x117_19, x117_22, x117_23, x117_24, x117_27, x117_28, x117_29, x117_31, x117_34, x117_35, x117_36, x117_39, x117_42, x117_43, (fcnO_66_5 ho), if_true, if_false, eq_self, Int.reduceEq, Int.reduceLT, Int.reduceLE, Int.reduceAdd, Int.reduceSub, Int.reduceMul, Int.reduceToNat, Nat.reduceAdd, Nat.reduceMul, Nat.reduceEqDiff, Int.toNat_natCast, wrap_id, hN, if_neg (show ¬ (i : Int) < i by omega)]
  | succ m ih =>
    intro i s hi hi25 hN hcv hW hS
    have hput : ∀ v : Int, CVc (mu s (72 + o) i v) o L 25 cv N ∧ SWc (mu s (72 + o) i v) o L W ∧ mu s (72 + o) i v (66 + o) 7 = N := fun v => ⟨CVc_put _ _ _ (fun k j hk _ _ => mu_c (by omega)) hcv, fun g hg => by rw [mu_c (by omega)]; exact hS g hg, by rw [mu_c (by omega), hN]⟩
    have F1 : ∀ v : Int, Fr (WNF o N) s (mu s (72 + o) i v) := fun v => (Fr.rf s).mu ⟨rfl, hi25, by omega⟩
    rcases CVc_at (i := i) cv 25 hcv hi25 (by omega) with ⟨h5, g, hg, hgL⟩ | ⟨e0, m0, g1, g2, g3, g4, g5⟩
    · have hw := kw_idx (d := d) (by omega) ho (show i < 225 by omega) h5 hg (by omega) (hS g hgL).1
      rw [ms_step ho hN (by omega) hN2 hw, if_neg (by have := (hS g hgL).2; omega)]
      obtain ⟨p1, p2, p3⟩ := hput (W g)
      -- a name alone is no expression's whole, or it is the signal itself
      have hW' : WAc (mu s (72 + o) i (W g)) o W (i + 1) := by
        intro e m1 hc hm1 hi1
        have hp := esz_pos e
        by_cases hr : m1 + esz e ≤ i
        · exact WAc_put hW e m1 hc hm1 hr
        · have hrt : m1 + esz e = i + 1 := by omega
          have hc' : CR s o e m1 := CR_put hc (fun k j hk _ _ => (mu_c (by omega)).symm)
          rcases CR_root hc' with ⟨g', rfl⟩ | hno
          · have he : esz (.index g') = 1 := rfl
            have hm1i : m1 = i := by omega
            subst hm1i
            have hgg : g' = g := by
              have := hc'.2.1
              rw [hg] at this
              omega
            subst hgg
            exact ⟨by rw [show m1 + esz (.index g') - 1 = m1 from rfl, mu_s]; rfl, fun z => by have := (hS g' hgL).2; have z' : 16 < W g' := z; omega⟩
          · exact absurd (by rw [show m1 + esz e - 1 = i by omega]; exact h5) hno
      rcases ih (i + 1) _ (by omega) (by omega) p3 p1 hW' p2 with ⟨s', i1, i2, i3⟩ | ⟨i0, s', i1, i2⟩
      · exact Or.inl ⟨s', i1, i2, (F1 _).tr i3⟩
      · exact Or.inr ⟨i0, s', i1, (F1 _).tr i2⟩
    · obtain ⟨w1, w2⟩ := k_widthOf (d := d) hd ho hL g1 g2 g3 (by omega) hW hS (g5 L hix)
      rw [ms_step ho hN (by omega) hN2 w1]
      by_cases h16 : 16 < wE W e0
      · rw [if_pos h16]
        refine Or.inr ⟨g4 W ?_, _, rfl, F1 _⟩
        unfold tw
        split
        · exact Or.inl h16
        · exact Or.inl h16
        · exact Or.inl h16
        · exact Or.inl h16
        · exact h16
      · rw [if_neg h16]
        obtain ⟨p1, p2, p3⟩ := hput (wE W e0)
        have hW' : WAc (mu s (72 + o) i (wE W e0)) o W (i + 1) := by
          intro e m1 hc hm1 hi1
          have hp := esz_pos e
          by_cases hr : m1 + esz e ≤ i
          · exact WAc_put hW e m1 hc hm1 hr
          · have hrt : m1 + esz e = i + 1 := by omega
            have hc' : CR s o e m1 := CR_put hc (fun k j hk _ _ => (mu_c (by omega)).symm)
            have hp0 := esz_pos e0
            have hf1 := CR_first hc'
            have hf0 := CR_first g1
            rw [show m1 + esz e - 1 = i by omega] at hf1
            rw [show m0 + esz e0 - 1 = i by omega] at hf0
            have hm01 : m1 = m0 := by omega
            subst hm01
            have hee := CR_uniq (esz e) e e0 m1 (Nat.le_refl _) hc' g1 (by omega)
            subst hee
            rw [show m1 + esz e - 1 = i by omega, mu_s]
            exact ⟨rfl, fun z => h16 (w2 z)⟩
        rcases ih (i + 1) _ (by omega) (by omega) p3 p1 hW' p2 with ⟨s', i1, i2, i3⟩ | ⟨i0, s', i1, i2⟩
        · exact Or.inl ⟨s', i1, i2, (F1 _).tr i3⟩
        · exact Or.inr ⟨i0, s', i1, (F1 _).tr i2⟩
