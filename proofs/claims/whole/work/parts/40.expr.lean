def esz : Jvm.Term → Nat
  | .old a => 1 + esz a
  | .mul _ a => 1 + esz a
  | .div _ (.rem a b) => 1 + esz a + esz b
  | .sub c (.rem a b) => 1 + esz c + esz a + esz b
  | _ => 1
/-- the expression e, as the reference's nodes have it from n on -/
def RE (s : Mem) : Jvm.Term → Nat → Prop
  | .old a, n => s 12 n = 33 ∧ s 15 n = ((n + 1 : Nat) : Int) ∧ s 16 n = -1 ∧ s 18 n = ((n + 1 + esz a : Nat) : Int) ∧ RE s a (n + 1)
  | .mul (.add (.arg h) (.arg l)) a, n => s 12 n = 84 ∧ s 14 n = h ∧ s 13 n = l ∧ (h ≤ 15 ∧ l ≤ h) ∧ s 15 n = ((n + 1 : Nat) : Int) ∧ s 16 n = -1 ∧ s 18 n = ((n + 1 + esz a : Nat) : Int) ∧ RE s a (n + 1)
  | .div (.arg c) (.rem a b), n => s 12 n = c ∧ two c ∧ s 15 n = ((n + 1 : Nat) : Int) ∧ s 16 n = ((n + 1 + esz a : Nat) : Int) ∧ s 18 n = ((n + 1 + esz a + esz b : Nat) : Int) ∧ RE s a (n + 1) ∧ RE s b (n + 1 + esz a)
  | .sub c (.rem a b), n => s 12 n = 77 ∧ s 15 n = ((n + 1 : Nat) : Int) ∧ s 16 n = ((n + 1 + esz c : Nat) : Int) ∧ s 17 n = ((n + 1 + esz c + esz a : Nat) : Int) ∧ s 18 n = ((n + 1 + esz c + esz a + esz b : Nat) : Int) ∧ RE s c (n + 1) ∧ RE s a (n + 1 + esz c) ∧ RE s b (n + 1 + esz c + esz a)
  | .add (.arg nm) r, n => s 12 n = 0 ∧ s 13 n = nm ∧ nm < 26 ∧ RPath s n r 0 ∧ s 18 n = ((n + 1 : Nat) : Int) ∧ s 15 n = -1
  | .arg v, n => s 12 n = 1 ∧ s 13 n = v ∧ v ≤ 65535 ∧ s 18 n = ((n + 1 : Nat) : Int)
  | _, _ => False
/-- the nodes from a up to b are the same -/
def AG (s s' : Mem) (a b : Nat) : Prop := (∀ k j, (12 ≤ k ∧ k ≤ 18 ∨ k = 21) → a ≤ j → j < b → s' k j = s k j) ∧ ∀ j, 6 * a ≤ j → j < 6 * b → s' 20 j = s 20 j
theorem AG.sub {s s' : Mem} {a b c d : Nat} (h : AG s s' a b) (h1 : a ≤ c) (h2 : d ≤ b) : AG s s' c d := ⟨fun k j hk h3 h4 => h.1 k j hk (by omega) (by omega), fun j h3 h4 => h.2 j (by omega) (by omega)⟩
theorem esz_pos (e : Jvm.Term) : 1 ≤ esz e := by unfold esz; split <;> omega
theorem RE_put {s s' : Mem} {e : Jvm.Term} {n : Nat} : RE s e n → AG s s' n (n + esz e) → RE s' e n := by
  fun_induction RE s e n with
  | case1 a n ih =>
    intro h g
    simp only [esz] at g
    obtain ⟨h1, h2, h3, h4, h5⟩ := h
    refine ⟨?_, ?_, ?_, ?_, ih h5 (g.sub (by omega) (by omega))⟩
    · rw [g.1 _ _ (by omega) (by omega) (by omega), h1]
    · rw [g.1 _ _ (by omega) (by omega) (by omega), h2]
    · rw [g.1 _ _ (by omega) (by omega) (by omega), h3]
    · rw [g.1 _ _ (by omega) (by omega) (by omega), h4]
  | case2 h l a n ih =>
    intro h g
    simp only [esz] at g
    obtain ⟨h1, h2, h3, h4, h5, h6, h7, h8⟩ := h
    refine ⟨?_, ?_, ?_, h4, ?_, ?_, ?_, ih h8 (g.sub (by omega) (by omega))⟩
    · rw [g.1 _ _ (by omega) (by omega) (by omega), h1]
    · rw [g.1 _ _ (by omega) (by omega) (by omega), h2]
    · rw [g.1 _ _ (by omega) (by omega) (by omega), h3]
    · rw [g.1 _ _ (by omega) (by omega) (by omega), h5]
    · rw [g.1 _ _ (by omega) (by omega) (by omega), h6]
    · rw [g.1 _ _ (by omega) (by omega) (by omega), h7]
  | case3 c a b n ih1 ih2 =>
    intro h g
    simp only [esz] at g
    obtain ⟨h1, h2, h3, h4, h5, h6, h7⟩ := h
    refine ⟨?_, h2, ?_, ?_, ?_, ih1 h6 (g.sub (by omega) (by omega)), ih2 h7 (g.sub (by omega) (by omega))⟩
    · rw [g.1 _ _ (by omega) (by omega) (by omega), h1]
    · rw [g.1 _ _ (by omega) (by omega) (by omega), h3]
    · rw [g.1 _ _ (by omega) (by omega) (by omega), h4]
    · rw [g.1 _ _ (by omega) (by omega) (by omega), h5]
  | case4 c a b n ih1 ih2 ih3 =>
    intro h g
    simp only [esz] at g
    obtain ⟨h1, h2, h3, h4, h5, h6, h7, h8⟩ := h
    refine ⟨?_, ?_, ?_, ?_, ?_, ih1 h6 (g.sub (by omega) (by omega)), ih2 h7 (g.sub (by omega) (by omega)), ih3 h8 (g.sub (by omega) (by omega))⟩
    · rw [g.1 _ _ (by omega) (by omega) (by omega), h1]
    · rw [g.1 _ _ (by omega) (by omega) (by omega), h2]
    · rw [g.1 _ _ (by omega) (by omega) (by omega), h3]
    · rw [g.1 _ _ (by omega) (by omega) (by omega), h4]
    · rw [g.1 _ _ (by omega) (by omega) (by omega), h5]
  | case5 nm r n =>
    intro h g
    simp only [esz] at g
    obtain ⟨h1, h2, h3, h4, h5, h6⟩ := h
    refine ⟨?_, ?_, h3, RPath_put (by rw [g.1 _ _ (by omega) (by omega) (by omega)]) h4 (fun j q1 q2 => g.2 j (by omega) (by omega)), ?_, by rw [g.1 _ _ (by omega) (by omega) (by omega), h6]⟩
    · rw [g.1 _ _ (by omega) (by omega) (by omega), h1]
    · rw [g.1 _ _ (by omega) (by omega) (by omega), h2]
    · rw [g.1 _ _ (by omega) (by omega) (by omega), h5]
  | case6 v n =>
    intro h g
    simp only [esz] at g
    obtain ⟨h1, h2, h3, h4⟩ := h
    refine ⟨?_, ?_, h3, ?_⟩
    · rw [g.1 _ _ (by omega) (by omega) (by omega), h1]
    · rw [g.1 _ _ (by omega) (by omega) (by omega), h2]
    · rw [g.1 _ _ (by omega) (by omega) (by omega), h4]
  | case7 => intro h; exact h.elim
/-- what reading a part at depth dp may write -/
def TE (n dp k j : Nat) : Prop := SE n k j ∨ ((k = 23 ∨ k = 24) ∧ dp ≤ j)
def TX' (n dp k j : Nat) : Prop := SX n k j ∨ ((k = 23 ∨ k = 24) ∧ dp ≤ j)
theorem te_exit {d : Nat} (s : Mem) (hb : ¬ s 0 5 = 0) (a b rt : Int) (l4 l5 l6 : AV) : Ze d 22 9 [aR 0, aI a, aI b, aI rt, l4, l5, l6] [] s = rI 0 s := by
  rw [x22_9]
  simp (disch := first | exact obC_0 | omega | (simp only [aN1_12, aN1_13, aN1_18, aN1_23, aN1_24]; omega) | (simp only [List.length_cons, List.length_nil]; omega)) only [en22, x22_0, x22_1, x22_2, x22_3, x22_4, x22_5, x22_8, x22_10, x22_13, x22_16, x22_17, x22_20, x22_21, x22_24, x22_26, x22_27, x22_29, x22_32, x22_34, x22_35, x22_37, x22_40, x22_41, x22_42, x22_45, x22_48, x22_51, x22_53, x22_56, x22_59, x22_60, x22_63, x22_64, x22_67, x22_69, x22_72, x22_75, x22_76, x22_77, x22_80, x22_82, x22_83, x22_86, x22_88, x22_89, x22_90, x22_92, x22_95, x22_96, x22_97, x22_100, x22_102, x22_103, x22_106, x22_107, x22_109, x22_110, x22_113, x22_115, x22_118, x22_119, x22_120, x22_123, x22_126, x22_129, x22_130, x22_130i, x22_131, x22_134, x22_135, x22_136, x22_139, x22_140, x22_142, x22_145, x22_146, x22_149, x22_150, x22_151, x22_153, x22_156, x22_157, x22_158, x22_161, x22_162, x22_163, x22_164, x22_167, x22_170, x22_171, x22_174, x22_175, x22_176, x22_177, x22_180, x22_181, x22_182, x22_183, x22_184, x22_186, x22_187, x22_190, x22_192, x22_193, x22_195, x22_196, x22_198, x22_199, x22_202, x22_203, x22_204, x22_205, x22_206, x22_207, x22_210, x22_211, x22_214, x22_215, x22_216, x22_217, x22_218, x22_219, x22_220, x22_221, x22_222, x22_224, x22_226, x22_229, x22_231, x22_233, x22_236, x22_237, x22_240, x22_241, x22_242, x22_243, x22_244, x22_246, x22_248, x22_251, x22_252, x22_255, x22_256, x22_259, x22_260, x22_263, x22_264, x22_266, x22_268, x22_270, x22_273, x22_274, x22_276, x22_279, x22_280, x22_283, x22_286, x22_287, x22_289, x22_292, x22_294, x22_297, x22_299, x22_302, x22_303, x22_304, x22_306, x22_309, x22_312, x22_313, x22_316, x22_318, x22_319, x22_322, x22_323, x22_326, x22_328, x22_329, x22_332, x22_333, fcn_0_19, fcn_0_20, fcn_0_25, fcn_0_30, fcn_0_31, if_true, if_false, eq_self, Int.reduceEq, Int.reduceLT, Int.reduceLE, Int.reduceAdd, Int.reduceSub, Int.reduceMul, Int.reduceToNat, Nat.reduceAdd, Nat.reduceMul, Nat.reduceEqDiff, Int.toNat_natCast, wrap_id, if_neg hb]
/-- the head of a part: where it stands, and the character there -/
theorem te_top {d dp p j : Nat} (hd : 3 ≤ d) (s : Mem) (ho : okT s) (hb : s 0 5 = 0) (hat : s 0 2 = j) (hj : j ≤ (tx s).2) (hp : sk (tx s) j = p) (rt : Int) (l4 l5 l6 : AV) :
    Ze d 22 9 [aR 0, aI dp, aI (-1), aI rt, l4, l5, l6] [] s = Ze d 22 34 [aR 0, aI dp, aI (-1), aI rt, aI (cA (tx s) p), aI (prt (tx s) p (cA (tx s) p)), l6] [] (mu s 0 2 p) := by
  obtain ⟨a1, a2, a3, a4⟩ := at_st ho (p : Int)
  have hk := t_here (d := d) (by omega) s ho hat hj
  rw [hp] at hk
  have hpn := sk_le (tx s) hj
  have hlen := tx_le ho
  have hk2 := t_parts (d := d) (by omega) (mu s 0 2 p) a2 a3 (by omega) (cA (tx s) p)
  rw [a1] at hk2
  rw [x22_9]
  simp (disch := first | exact obC_0 | omega | (simp only [aN1_12, aN1_13, aN1_18, aN1_23, aN1_24]; omega) | (simp only [List.length_cons, List.length_nil]; omega)) only [en22, x22_0, x22_1, x22_2, x22_3, x22_4, x22_5, x22_8, x22_10, x22_13, x22_16, x22_17, x22_20, x22_21, x22_24, x22_26, x22_27, x22_29, x22_32, x22_35, x22_37, x22_40, x22_41, x22_42, x22_45, x22_48, x22_51, x22_53, x22_56, x22_59, x22_60, x22_63, x22_64, x22_67, x22_69, x22_72, x22_75, x22_76, x22_77, x22_80, x22_82, x22_83, x22_86, x22_88, x22_89, x22_90, x22_92, x22_95, x22_96, x22_97, x22_100, x22_102, x22_103, x22_106, x22_107, x22_109, x22_110, x22_113, x22_115, x22_118, x22_119, x22_120, x22_123, x22_126, x22_129, x22_130, x22_130i, x22_131, x22_134, x22_135, x22_136, x22_139, x22_140, x22_142, x22_145, x22_146, x22_149, x22_150, x22_151, x22_153, x22_156, x22_157, x22_158, x22_161, x22_162, x22_163, x22_164, x22_167, x22_170, x22_171, x22_174, x22_175, x22_176, x22_177, x22_180, x22_181, x22_182, x22_183, x22_184, x22_186, x22_187, x22_190, x22_192, x22_193, x22_195, x22_196, x22_198, x22_199, x22_202, x22_203, x22_204, x22_205, x22_206, x22_207, x22_210, x22_211, x22_214, x22_215, x22_216, x22_217, x22_218, x22_219, x22_220, x22_221, x22_222, x22_224, x22_226, x22_229, x22_231, x22_233, x22_236, x22_237, x22_240, x22_241, x22_242, x22_243, x22_244, x22_246, x22_248, x22_251, x22_252, x22_255, x22_256, x22_259, x22_260, x22_263, x22_264, x22_266, x22_268, x22_270, x22_273, x22_274, x22_276, x22_279, x22_280, x22_283, x22_286, x22_287, x22_289, x22_292, x22_294, x22_297, x22_299, x22_302, x22_303, x22_304, x22_306, x22_309, x22_312, x22_313, x22_316, x22_318, x22_319, x22_322, x22_323, x22_326, x22_328, x22_329, x22_332, x22_333, fcn_0_19, fcn_0_20, fcn_0_25, fcn_0_30, fcn_0_31, if_true, if_false, eq_self, Int.reduceEq, Int.reduceLT, Int.reduceLE, Int.reduceAdd, Int.reduceSub, Int.reduceMul, Int.reduceToNat, Nat.reduceAdd, Nat.reduceMul, Nat.reduceEqDiff, Int.toNat_natCast, wrap_id, if_pos hb, hk, hk2, zcI_r]
theorem te_deep {d p : Nat} (hd : 3 ≤ d) (s : Mem) (hb : s 0 5 = 0) (hat : s 0 2 = p) (rt c n : Int) (l6 : AV) :
    Ze d 22 34 [aR 0, aI 6, aI (-1), aI rt, aI c, aI n, l6] [] s = rI 0 (mu (mu s 0 3 p) 0 5 1) := by
  have hk := t_wrong (d := d) (by omega) s p
  rw [wr_0 hb] at hk
  simp (disch := first | exact obC_0 | omega | (simp only [aN1_12, aN1_13, aN1_18, aN1_23, aN1_24]; omega) | (simp only [List.length_cons, List.length_nil]; omega)) only [en22, x22_0, x22_1, x22_2, x22_3, x22_4, x22_5, x22_8, x22_10, x22_13, x22_16, x22_17, x22_20, x22_21, x22_24, x22_26, x22_27, x22_29, x22_32, x22_34, x22_35, x22_37, x22_40, x22_41, x22_42, x22_45, x22_48, x22_51, x22_53, x22_56, x22_59, x22_60, x22_63, x22_64, x22_67, x22_69, x22_72, x22_75, x22_76, x22_77, x22_80, x22_82, x22_83, x22_86, x22_88, x22_89, x22_90, x22_92, x22_95, x22_96, x22_97, x22_100, x22_102, x22_103, x22_106, x22_107, x22_109, x22_110, x22_113, x22_115, x22_118, x22_119, x22_120, x22_123, x22_126, x22_129, x22_130, x22_130i, x22_131, x22_134, x22_135, x22_136, x22_139, x22_140, x22_142, x22_145, x22_146, x22_149, x22_150, x22_151, x22_153, x22_156, x22_157, x22_158, x22_161, x22_162, x22_163, x22_164, x22_167, x22_170, x22_171, x22_174, x22_175, x22_176, x22_177, x22_180, x22_181, x22_182, x22_183, x22_184, x22_186, x22_187, x22_190, x22_192, x22_193, x22_195, x22_196, x22_198, x22_199, x22_202, x22_203, x22_204, x22_205, x22_206, x22_207, x22_210, x22_211, x22_214, x22_215, x22_216, x22_217, x22_218, x22_219, x22_220, x22_221, x22_222, x22_224, x22_226, x22_229, x22_231, x22_233, x22_236, x22_237, x22_240, x22_241, x22_242, x22_243, x22_244, x22_246, x22_248, x22_251, x22_252, x22_255, x22_256, x22_259, x22_260, x22_263, x22_264, x22_266, x22_268, x22_270, x22_273, x22_274, x22_276, x22_279, x22_280, x22_283, x22_286, x22_287, x22_289, x22_292, x22_294, x22_297, x22_299, x22_302, x22_303, x22_304, x22_306, x22_309, x22_312, x22_313, x22_316, x22_318, x22_319, x22_322, x22_323, x22_326, x22_328, x22_329, x22_332, x22_333, fcn_0_19, fcn_0_20, fcn_0_25, fcn_0_30, fcn_0_31, if_true, if_false, eq_self, Int.reduceEq, Int.reduceLT, Int.reduceLE, Int.reduceAdd, Int.reduceSub, Int.reduceMul, Int.reduceToNat, Nat.reduceAdd, Nat.reduceMul, Nat.reduceEqDiff, Int.toNat_natCast, wrap_id, hat, hk, zcV_r]
  exact te_exit _ (by rw [mu_s]; decide) _ _ _ _ _ _
theorem te_none {d dp p : Nat} (hd : 3 ≤ d) (hdp : dp < 6) (s : Mem) (hb : s 0 5 = 0) (hat : s 0 2 = p) (rt c : Int) (l6 : AV) (h1 : ¬ isN c) (h2 : ¬ isD c) :
    Ze d 22 34 [aR 0, aI dp, aI (-1), aI rt, aI c, aI 0, l6] [] s = rI 0 (mu (mu s 0 3 p) 0 5 1) := by
  have hk := t_wrong (d := d) (by omega) s p
  rw [wr_0 hb] at hk
  have e1 : (if 97 ≤ c ∧ c ≤ 122 then (1 : Int) else 0) = 0 := if_neg h1
  have e2 : (if 48 ≤ c ∧ c ≤ 57 then (1 : Int) else 0) = 0 := if_neg h2
  simp (disch := first | exact obC_0 | omega | (simp only [aN1_12, aN1_13, aN1_18, aN1_23, aN1_24]; omega) | (simp only [List.length_cons, List.length_nil]; omega)) only [en22, x22_0, x22_1, x22_2, x22_3, x22_4, x22_5, x22_8, x22_10, x22_13, x22_16, x22_17, x22_20, x22_21, x22_24, x22_26, x22_27, x22_29, x22_32, x22_34, x22_35, x22_37, x22_40, x22_41, x22_42, x22_45, x22_48, x22_51, x22_53, x22_56, x22_59, x22_60, x22_63, x22_64, x22_67, x22_69, x22_72, x22_75, x22_76, x22_77, x22_80, x22_82, x22_83, x22_86, x22_88, x22_89, x22_90, x22_92, x22_95, x22_96, x22_97, x22_100, x22_102, x22_103, x22_106, x22_107, x22_109, x22_110, x22_113, x22_115, x22_118, x22_119, x22_120, x22_123, x22_126, x22_129, x22_130, x22_130i, x22_131, x22_134, x22_135, x22_136, x22_139, x22_140, x22_142, x22_145, x22_146, x22_149, x22_150, x22_151, x22_153, x22_156, x22_157, x22_158, x22_161, x22_162, x22_163, x22_164, x22_167, x22_170, x22_171, x22_174, x22_175, x22_176, x22_177, x22_180, x22_181, x22_182, x22_183, x22_184, x22_186, x22_187, x22_190, x22_192, x22_193, x22_195, x22_196, x22_198, x22_199, x22_202, x22_203, x22_204, x22_205, x22_206, x22_207, x22_210, x22_211, x22_214, x22_215, x22_216, x22_217, x22_218, x22_219, x22_220, x22_221, x22_222, x22_224, x22_226, x22_229, x22_231, x22_233, x22_236, x22_237, x22_240, x22_241, x22_242, x22_243, x22_244, x22_246, x22_248, x22_251, x22_252, x22_255, x22_256, x22_259, x22_260, x22_263, x22_264, x22_266, x22_268, x22_270, x22_273, x22_274, x22_276, x22_279, x22_280, x22_283, x22_286, x22_287, x22_289, x22_292, x22_294, x22_297, x22_299, x22_302, x22_303, x22_304, x22_306, x22_309, x22_312, x22_313, x22_316, x22_318, x22_319, x22_322, x22_323, x22_326, x22_328, x22_329, x22_332, x22_333, fcn_0_19, fcn_0_20, fcn_0_25, fcn_0_30, fcn_0_31, if_true, if_false, eq_self, Int.reduceEq, Int.reduceLT, Int.reduceLE, Int.reduceAdd, Int.reduceSub, Int.reduceMul, Int.reduceToNat, Nat.reduceAdd, Nat.reduceMul, Nat.reduceEqDiff, Int.toNat_natCast, wrap_id, hat, hk, zcV_r, zcI_r, t_isName, t_isDigit, e1, e2, if_neg (show ¬ (dp : Int) = 6 by omega)]
  exact te_exit _ (by rw [mu_s]; decide) _ _ _ _ _ _
theorem te_name {d dp : Nat} (hd : 7 ≤ d) (hdp : dp < 6) (s s' : Mem) (rt c n v : Int) (l6 : AV) (h1 : isN c) (hk : Zc d 17 [aR 0] s = rI v s') :
    Ze d 22 34 [aR 0, aI dp, aI (-1), aI rt, aI c, aI n, l6] [] s = Ze d 22 9 [aR 0, aI dp, aI v, aI rt, aI c, aI n, l6] [] s' := by
  have e1 : (if 97 ≤ c ∧ c ≤ 122 then (1 : Int) else 0) = 1 := if_pos h1
  simp (disch := first | exact obC_0 | omega | (simp only [aN1_12, aN1_13, aN1_18, aN1_23, aN1_24]; omega) | (simp only [List.length_cons, List.length_nil]; omega)) only [en22, x22_0, x22_1, x22_2, x22_3, x22_4, x22_5, x22_8, x22_10, x22_13, x22_16, x22_17, x22_20, x22_21, x22_24, x22_26, x22_27, x22_29, x22_32, x22_34, x22_35, x22_37, x22_40, x22_41, x22_42, x22_45, x22_48, x22_51, x22_53, x22_56, x22_59, x22_60, x22_63, x22_64, x22_67, x22_69, x22_72, x22_75, x22_76, x22_77, x22_80, x22_82, x22_83, x22_86, x22_88, x22_89, x22_90, x22_92, x22_95, x22_96, x22_97, x22_100, x22_102, x22_103, x22_106, x22_107, x22_109, x22_110, x22_113, x22_115, x22_118, x22_119, x22_120, x22_123, x22_126, x22_129, x22_130, x22_130i, x22_131, x22_134, x22_135, x22_136, x22_139, x22_140, x22_142, x22_145, x22_146, x22_149, x22_150, x22_151, x22_153, x22_156, x22_157, x22_158, x22_161, x22_162, x22_163, x22_164, x22_167, x22_170, x22_171, x22_174, x22_175, x22_176, x22_177, x22_180, x22_181, x22_182, x22_183, x22_184, x22_186, x22_187, x22_190, x22_192, x22_193, x22_195, x22_196, x22_198, x22_199, x22_202, x22_203, x22_204, x22_205, x22_206, x22_207, x22_210, x22_211, x22_214, x22_215, x22_216, x22_217, x22_218, x22_219, x22_220, x22_221, x22_222, x22_224, x22_226, x22_229, x22_231, x22_233, x22_236, x22_237, x22_240, x22_241, x22_242, x22_243, x22_244, x22_246, x22_248, x22_251, x22_252, x22_255, x22_256, x22_259, x22_260, x22_263, x22_264, x22_266, x22_268, x22_270, x22_273, x22_274, x22_276, x22_279, x22_280, x22_283, x22_286, x22_287, x22_289, x22_292, x22_294, x22_297, x22_299, x22_302, x22_303, x22_304, x22_306, x22_309, x22_312, x22_313, x22_316, x22_318, x22_319, x22_322, x22_323, x22_326, x22_328, x22_329, x22_332, x22_333, fcn_0_19, fcn_0_20, fcn_0_25, fcn_0_30, fcn_0_31, if_true, if_false, eq_self, Int.reduceEq, Int.reduceLT, Int.reduceLE, Int.reduceAdd, Int.reduceSub, Int.reduceMul, Int.reduceToNat, Nat.reduceAdd, Nat.reduceMul, Nat.reduceEqDiff, Int.toNat_natCast, wrap_id, hk, zcV_r, zcI_r, t_isName, e1, if_neg (show ¬ (dp : Int) = 6 by omega)]
theorem te_num {d dp n : Nat} (hd : 7 ≤ d) (hdp : dp < 6) (hn : n < 220) (s s1 s' : Mem) (rt c k v : Int) (l6 : AV) (h1 : ¬ isN c) (h2 : isD c) (hnn : Zc d 16 [aR 0, aI 1] s = rI n s1) (hk : Zc d 12 [aR 0, aI 0, aI 65535] s1 = rI v s') (hnd : s' 0 32 = ((n + 1 : Nat) : Int)) :
    Ze d 22 34 [aR 0, aI dp, aI (-1), aI rt, aI c, aI k, l6] [] s = Ze d 22 9 [aR 0, aI dp, aI n, aI rt, aI c, aI k, aI n] [] (mu (mu s' 13 n v) 18 n ((n + 1 : Nat) : Int)) := by
  have e1 : (if 97 ≤ c ∧ c ≤ 122 then (1 : Int) else 0) = 0 := if_neg h1
  have e2 : (if 48 ≤ c ∧ c ≤ 57 then (1 : Int) else 0) = 1 := if_pos h2
  simp (disch := first | exact obC_0 | omega | (simp only [aN1_12, aN1_13, aN1_18, aN1_23, aN1_24]; omega) | (simp only [List.length_cons, List.length_nil]; omega)) only [en22, x22_0, x22_1, x22_2, x22_3, x22_4, x22_5, x22_8, x22_10, x22_13, x22_16, x22_17, x22_20, x22_21, x22_24, x22_26, x22_27, x22_29, x22_32, x22_34, x22_35, x22_37, x22_40, x22_41, x22_42, x22_45, x22_48, x22_51, x22_53, x22_56, x22_59, x22_60, x22_63, x22_64, x22_67, x22_69, x22_72, x22_75, x22_76, x22_77, x22_80, x22_82, x22_83, x22_86, x22_88, x22_89, x22_90, x22_92, x22_95, x22_96, x22_97, x22_100, x22_102, x22_103, x22_106, x22_107, x22_109, x22_110, x22_113, x22_115, x22_118, x22_119, x22_120, x22_123, x22_126, x22_129, x22_130, x22_130i, x22_131, x22_134, x22_135, x22_136, x22_139, x22_140, x22_142, x22_145, x22_146, x22_149, x22_150, x22_151, x22_153, x22_156, x22_157, x22_158, x22_161, x22_162, x22_163, x22_164, x22_167, x22_170, x22_171, x22_174, x22_175, x22_176, x22_177, x22_180, x22_181, x22_182, x22_183, x22_184, x22_186, x22_187, x22_190, x22_192, x22_193, x22_195, x22_196, x22_198, x22_199, x22_202, x22_203, x22_204, x22_205, x22_206, x22_207, x22_210, x22_211, x22_214, x22_215, x22_216, x22_217, x22_218, x22_219, x22_220, x22_221, x22_222, x22_224, x22_226, x22_229, x22_231, x22_233, x22_236, x22_237, x22_240, x22_241, x22_242, x22_243, x22_244, x22_246, x22_248, x22_251, x22_252, x22_255, x22_256, x22_259, x22_260, x22_263, x22_264, x22_266, x22_268, x22_270, x22_273, x22_274, x22_276, x22_279, x22_280, x22_283, x22_286, x22_287, x22_289, x22_292, x22_294, x22_297, x22_299, x22_302, x22_303, x22_304, x22_306, x22_309, x22_312, x22_313, x22_316, x22_318, x22_319, x22_322, x22_323, x22_326, x22_328, x22_329, x22_332, x22_333, fcn_0_19, fcn_0_20, fcn_0_25, fcn_0_30, fcn_0_31, if_true, if_false, eq_self, Int.reduceEq, Int.reduceLT, Int.reduceLE, Int.reduceAdd, Int.reduceSub, Int.reduceMul, Int.reduceToNat, Nat.reduceAdd, Nat.reduceMul, Nat.reduceEqDiff, Int.toNat_natCast, wrap_id, hnn, hk, zcV_r, zcI_r, t_isName, t_isDigit, e1, e2, if_neg (show ¬ (dp : Int) = 6 by omega), mu_c, hnd]
theorem te_open {d dp n p : Nat} (hd : 7 ≤ d) (hdp : dp < 6) (s s1 s2 : Mem) (rt c k : Int) (l6 : AV) (h1 : ¬ isN c) (h2 : ¬ isD c) (h3 : ¬ k = 0) (hat : s 0 2 = p) (hp : p ≤ 300) (hk : Zc d 8 [aR 0, aI 40] (mu s 0 2 ((p : Int) + 1)) = rV s1) (hnn : Zc d 16 [aR 0, aI c] s1 = rI n s2) :
    Ze d 22 34 [aR 0, aI dp, aI (-1), aI rt, aI c, aI k, l6] [] s = Ze d 22 9 [aR 0, aI ((dp : Int) + 1), aI (-1), aI rt, aI c, aI k, l6] [] (mu (mu s2 23 dp n) 24 dp 0) := by
  have e1 : (if 97 ≤ c ∧ c ≤ 122 then (1 : Int) else 0) = 0 := if_neg h1
  have e2 : (if 48 ≤ c ∧ c ≤ 57 then (1 : Int) else 0) = 0 := if_neg h2
  simp (disch := first | exact obC_0 | omega | (simp only [aN1_12, aN1_13, aN1_18, aN1_23, aN1_24]; omega) | (simp only [List.length_cons, List.length_nil]; omega)) only [en22, x22_0, x22_1, x22_2, x22_3, x22_4, x22_5, x22_8, x22_10, x22_13, x22_16, x22_17, x22_20, x22_21, x22_24, x22_26, x22_27, x22_29, x22_32, x22_34, x22_35, x22_37, x22_40, x22_41, x22_42, x22_45, x22_48, x22_51, x22_53, x22_56, x22_59, x22_60, x22_63, x22_64, x22_67, x22_69, x22_72, x22_75, x22_76, x22_77, x22_80, x22_82, x22_83, x22_86, x22_88, x22_89, x22_90, x22_92, x22_95, x22_96, x22_97, x22_100, x22_102, x22_103, x22_106, x22_107, x22_109, x22_110, x22_113, x22_115, x22_118, x22_119, x22_120, x22_123, x22_126, x22_129, x22_130, x22_130i, x22_131, x22_134, x22_135, x22_136, x22_139, x22_140, x22_142, x22_145, x22_146, x22_149, x22_150, x22_151, x22_153, x22_156, x22_157, x22_158, x22_161, x22_162, x22_163, x22_164, x22_167, x22_170, x22_171, x22_174, x22_175, x22_176, x22_177, x22_180, x22_181, x22_182, x22_183, x22_184, x22_186, x22_187, x22_190, x22_192, x22_193, x22_195, x22_196, x22_198, x22_199, x22_202, x22_203, x22_204, x22_205, x22_206, x22_207, x22_210, x22_211, x22_214, x22_215, x22_216, x22_217, x22_218, x22_219, x22_220, x22_221, x22_222, x22_224, x22_226, x22_229, x22_231, x22_233, x22_236, x22_237, x22_240, x22_241, x22_242, x22_243, x22_244, x22_246, x22_248, x22_251, x22_252, x22_255, x22_256, x22_259, x22_260, x22_263, x22_264, x22_266, x22_268, x22_270, x22_273, x22_274, x22_276, x22_279, x22_280, x22_283, x22_286, x22_287, x22_289, x22_292, x22_294, x22_297, x22_299, x22_302, x22_303, x22_304, x22_306, x22_309, x22_312, x22_313, x22_316, x22_318, x22_319, x22_322, x22_323, x22_326, x22_328, x22_329, x22_332, x22_333, fcn_0_19, fcn_0_20, fcn_0_25, fcn_0_30, fcn_0_31, if_true, if_false, eq_self, Int.reduceEq, Int.reduceLT, Int.reduceLE, Int.reduceAdd, Int.reduceSub, Int.reduceMul, Int.reduceToNat, Nat.reduceAdd, Nat.reduceMul, Nat.reduceEqDiff, Int.toNat_natCast, wrap_id, hat, hk, hnn, zcV_r, zcI_r, t_isName, t_isDigit, e1, e2, if_neg (show ¬ (dp : Int) = 6 by omega), if_neg h3]
