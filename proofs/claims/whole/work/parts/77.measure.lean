/-- the signals of an expression lie below L -/
def ixb (L : Nat) : Jvm.Term → Prop
  | .index g => g < L
  | .old a => ixb L a
  | .mul _ a => ixb L a
  | .div _ (.rem a b) => ixb L a ∧ ixb L b
  | .sub c (.rem a b) => ixb L c ∧ ixb L a ∧ ixb L b
  | _ => True
/-- the loop over the nodes: one of them -/
theorem ms_node {d n : Nat} {mo : Int} {w : Nat} {s : Mem} (hn : n < 220) (hw : w ≤ 40) (h : (s 12 n = 0 ∧ s 15 n = -1 ∧ w = 0) ∨ (¬ (s 12 n = 0 ∧ s 15 n < 0) ∧ Zc d 39 [aR 0, aI n] s = rI w s)) (l3 l4 : AV) :
    (w ≤ 16 → Ze d 40 126 [aR 0, aI mo, aI n, l3, l4] [] s = Ze d 40 126 [aR 0, aI mo, aI ((n : Int) - 1), l3, l4] [] (mu s 19 n w)) ∧
    (¬ w ≤ 16 → Ze d 40 126 [aR 0, aI mo, aI n, l3, l4] [] s = rI 0 (mu s 19 n w)) := by
  have en : (n : Int) - 1 = (n : Int) + -1 := by omega
  rw [en]
  rcases h with ⟨h1, h2, rfl⟩ | ⟨h1, h2⟩
  · refine ⟨fun _ => ?_, fun z => absurd (Nat.zero_le _) z⟩
    rw [x40_126]
    simp (disch := first | exact obC_0 | omega | (simp only [aN1_12, aN1_15, aN1_19, aN1_37, aN1_38, aN1_39, aN1_41, aN1_42, aN1_43]; omega) | (simp only [List.length_cons, List.length_nil]; omega)) only [en40, x40_0, x40_1, x40_3, x40_4, x40_7, x40_10, x40_11, x40_14, x40_15, x40_16, x40_19, x40_20, x40_23, x40_24, x40_25, x40_28, x40_29, x40_32, x40_33, x40_34, x40_35, x40_36, x40_37, x40_40, x40_41, x40_42, x40_43, x40_44, x40_47, x40_48, x40_51, x40_52, x40_53, x40_54, x40_55, x40_59, x40_60, x40_63, x40_66, x40_67, x40_70, x40_72, x40_73, x40_76, x40_77, x40_80, x40_82, x40_83, x40_84, x40_87, x40_88, x40_89, x40_92, x40_95, x40_96, x40_99, x40_100, x40_103, x40_104, x40_105, x40_108, x40_111, x40_112, x40_114, x40_117, x40_118, x40_119, x40_120, x40_123, x40_124, x40_125, x40_127, x40_130, x40_131, x40_134, x40_135, x40_136, x40_139, x40_140, x40_141, x40_144, x40_145, x40_148, x40_149, x40_150, x40_153, x40_154, x40_157, x40_158, x40_159, x40_162, x40_163, x40_164, x40_167, x40_168, x40_169, x40_171, x40_174, x40_175, x40_176, x40_179, x40_182, x40_183, x40_185, x40_186, x40_189, x40_192, x40_193, x40_196, x40_197, x40_198, x40_201, x40_202, x40_205, x40_206, x40_207, x40_208, x40_211, x40_212, x40_215, x40_216, x40_217, x40_218, x40_221, x40_224, x40_225, x40_228, x40_229, x40_230, x40_233, x40_234, x40_237, x40_238, x40_239, x40_240, x40_241, x40_242, x40_243, x40_246, x40_249, x40_250, x40_252, x40_253, x40_256, x40_259, x40_260, x40_263, x40_264, x40_265, x40_268, x40_269, x40_272, x40_273, x40_276, x40_277, x40_278, x40_279, x40_280, x40_283, x40_286, x40_287, x40_290, x40_291, x40_292, x40_295, x40_296, x40_299, x40_300, x40_301, x40_304, x40_305, x40_306, x40_307, x40_308, x40_311, x40_312, x40_315, x40_316, x40_319, x40_320, x40_321, x40_322, x40_323, x40_324, x40_325, x40_328, x40_329, x40_332, x40_333, x40_334, x40_335, x40_338, x40_341, x40_342, x40_345, x40_346, x40_349, x40_350, x40_351, x40_352, x40_353, x40_354, x40_355, x40_358, x40_361, x40_364, x40_365, x40_367, x40_368, x40_371, x40_374, x40_375, x40_378, x40_379, x40_380, x40_383, x40_384, x40_385, x40_386, x40_387, x40_388, x40_389, x40_392, x40_393, x40_394, x40_397, x40_398, x40_399, x40_402, x40_405, x40_406, fcn_0_19, fcn_0_22, fcn_0_26, fcn_0_46, fcn_0_47, fcn_0_48, fcn_0_54, fcn_0_55, fcn_0_56, if_true, if_false, eq_self, Int.reduceEq, Int.reduceLT, Int.reduceLE, Int.reduceAdd, Int.reduceSub, Int.reduceMul, Int.reduceToNat, Nat.reduceAdd, Nat.reduceMul, Nat.reduceEqDiff, Int.toNat_natCast, wrap_id, h1, h2, mu_s, if_neg (show ¬ (n : Int) < 0 by omega)]
    rfl
  · refine ⟨fun z => ?_, fun z => ?_⟩
    · rw [x40_126]
      by_cases hk : s 12 n = 0
      · have ha : ¬ s 15 n < 0 := fun q => h1 ⟨hk, q⟩
        simp (disch := first | exact obC_0 | omega | (simp only [aN1_12, aN1_15, aN1_19, aN1_37, aN1_38, aN1_39, aN1_41, aN1_42, aN1_43]; omega) | (simp only [List.length_cons, List.length_nil]; omega)) only [en40, x40_0, x40_1, x40_3, x40_4, x40_7, x40_10, x40_11, x40_14, x40_15, x40_16, x40_19, x40_20, x40_23, x40_24, x40_25, x40_28, x40_29, x40_32, x40_33, x40_34, x40_35, x40_36, x40_37, x40_40, x40_41, x40_42, x40_43, x40_44, x40_47, x40_48, x40_51, x40_52, x40_53, x40_54, x40_55, x40_59, x40_60, x40_63, x40_66, x40_67, x40_70, x40_72, x40_73, x40_76, x40_77, x40_80, x40_82, x40_83, x40_84, x40_87, x40_88, x40_89, x40_92, x40_95, x40_96, x40_99, x40_100, x40_103, x40_104, x40_105, x40_108, x40_111, x40_112, x40_114, x40_117, x40_118, x40_119, x40_120, x40_123, x40_124, x40_125, x40_127, x40_130, x40_131, x40_134, x40_135, x40_136, x40_139, x40_140, x40_141, x40_144, x40_145, x40_148, x40_149, x40_150, x40_153, x40_154, x40_157, x40_158, x40_159, x40_162, x40_163, x40_164, x40_167, x40_168, x40_169, x40_171, x40_174, x40_175, x40_176, x40_179, x40_182, x40_183, x40_185, x40_186, x40_189, x40_192, x40_193, x40_196, x40_197, x40_198, x40_201, x40_202, x40_205, x40_206, x40_207, x40_208, x40_211, x40_212, x40_215, x40_216, x40_217, x40_218, x40_221, x40_224, x40_225, x40_228, x40_229, x40_230, x40_233, x40_234, x40_237, x40_238, x40_239, x40_240, x40_241, x40_242, x40_243, x40_246, x40_249, x40_250, x40_252, x40_253, x40_256, x40_259, x40_260, x40_263, x40_264, x40_265, x40_268, x40_269, x40_272, x40_273, x40_276, x40_277, x40_278, x40_279, x40_280, x40_283, x40_286, x40_287, x40_290, x40_291, x40_292, x40_295, x40_296, x40_299, x40_300, x40_301, x40_304, x40_305, x40_306, x40_307, x40_308, x40_311, x40_312, x40_315, x40_316, x40_319, x40_320, x40_321, x40_322, x40_323, x40_324, x40_325, x40_328, x40_329, x40_332, x40_333, x40_334, x40_335, x40_338, x40_341, x40_342, x40_345, x40_346, x40_349, x40_350, x40_351, x40_352, x40_353, x40_354, x40_355, x40_358, x40_361, x40_364, x40_365, x40_367, x40_368, x40_371, x40_374, x40_375, x40_378, x40_379, x40_380, x40_383, x40_384, x40_385, x40_386, x40_387, x40_388, x40_389, x40_392, x40_393, x40_394, x40_397, x40_398, x40_399, x40_402, x40_405, x40_406, fcn_0_19, fcn_0_22, fcn_0_26, fcn_0_46, fcn_0_47, fcn_0_48, fcn_0_54, fcn_0_55, fcn_0_56, if_true, if_false, eq_self, Int.reduceEq, Int.reduceLT, Int.reduceLE, Int.reduceAdd, Int.reduceSub, Int.reduceMul, Int.reduceToNat, Nat.reduceAdd, Nat.reduceMul, Nat.reduceEqDiff, Int.toNat_natCast, wrap_id, if_pos hk, if_neg ha, h2, zcI_r, mu_s, if_neg (show ¬ (n : Int) < 0 by omega), if_neg (show ¬ 16 < (w : Int) by omega)]
      · simp (disch := first | exact obC_0 | omega | (simp only [aN1_12, aN1_15, aN1_19, aN1_37, aN1_38, aN1_39, aN1_41, aN1_42, aN1_43]; omega) | (simp only [List.length_cons, List.length_nil]; omega)) only [en40, x40_0, x40_1, x40_3, x40_4, x40_7, x40_10, x40_11, x40_14, x40_15, x40_16, x40_19, x40_20, x40_23, x40_24, x40_25, x40_28, x40_29, x40_32, x40_33, x40_34, x40_35, x40_36, x40_37, x40_40, x40_41, x40_42, x40_43, x40_44, x40_47, x40_48, x40_51, x40_52, x40_53, x40_54, x40_55, x40_59, x40_60, x40_63, x40_66, x40_67, x40_70, x40_72, x40_73, x40_76, x40_77, x40_80, x40_82, x40_83, x40_84, x40_87, x40_88, x40_89, x40_92, x40_95, x40_96, x40_99, x40_100, x40_103, x40_104, x40_105, x40_108, x40_111, x40_112, x40_114, x40_117, x40_118, x40_119, x40_120, x40_123, x40_124, x40_125, x40_127, x40_130, x40_131, x40_134, x40_135, x40_136, x40_139, x40_140, x40_141, x40_144, x40_145, x40_148, x40_149, x40_150, x40_153, x40_154, x40_157, x40_158, x40_159, x40_162, x40_163, x40_164, x40_167, x40_168, x40_169, x40_171, x40_174, x40_175, x40_176, x40_179, x40_182, x40_183, x40_185, x40_186, x40_189, x40_192, x40_193, x40_196, x40_197, x40_198, x40_201, x40_202, x40_205, x40_206, x40_207, x40_208, x40_211, x40_212, x40_215, x40_216, x40_217, x40_218, x40_221, x40_224, x40_225, x40_228, x40_229, x40_230, x40_233, x40_234, x40_237, x40_238, x40_239, x40_240, x40_241, x40_242, x40_243, x40_246, x40_249, x40_250, x40_252, x40_253, x40_256, x40_259, x40_260, x40_263, x40_264, x40_265, x40_268, x40_269, x40_272, x40_273, x40_276, x40_277, x40_278, x40_279, x40_280, x40_283, x40_286, x40_287, x40_290, x40_291, x40_292, x40_295, x40_296, x40_299, x40_300, x40_301, x40_304, x40_305, x40_306, x40_307, x40_308, x40_311, x40_312, x40_315, x40_316, x40_319, x40_320, x40_321, x40_322, x40_323, x40_324, x40_325, x40_328, x40_329, x40_332, x40_333, x40_334, x40_335, x40_338, x40_341, x40_342, x40_345, x40_346, x40_349, x40_350, x40_351, x40_352, x40_353, x40_354, x40_355, x40_358, x40_361, x40_364, x40_365, x40_367, x40_368, x40_371, x40_374, x40_375, x40_378, x40_379, x40_380, x40_383, x40_384, x40_385, x40_386, x40_387, x40_388, x40_389, x40_392, x40_393, x40_394, x40_397, x40_398, x40_399, x40_402, x40_405, x40_406, fcn_0_19, fcn_0_22, fcn_0_26, fcn_0_46, fcn_0_47, fcn_0_48, fcn_0_54, fcn_0_55, fcn_0_56, if_true, if_false, eq_self, Int.reduceEq, Int.reduceLT, Int.reduceLE, Int.reduceAdd, Int.reduceSub, Int.reduceMul, Int.reduceToNat, Nat.reduceAdd, Nat.reduceMul, Nat.reduceEqDiff, Int.toNat_natCast, wrap_id, if_neg hk, h2, zcI_r, mu_s, if_neg (show ¬ (n : Int) < 0 by omega), if_neg (show ¬ 16 < (w : Int) by omega)]
    · rw [x40_126]
      by_cases hk : s 12 n = 0
      · have ha : ¬ s 15 n < 0 := fun q => h1 ⟨hk, q⟩
        simp (disch := first | exact obC_0 | omega | (simp only [aN1_12, aN1_15, aN1_19, aN1_37, aN1_38, aN1_39, aN1_41, aN1_42, aN1_43]; omega) | (simp only [List.length_cons, List.length_nil]; omega)) only [en40, x40_0, x40_1, x40_3, x40_4, x40_7, x40_10, x40_11, x40_14, x40_15, x40_16, x40_19, x40_20, x40_23, x40_24, x40_25, x40_28, x40_29, x40_32, x40_33, x40_34, x40_35, x40_36, x40_37, x40_40, x40_41, x40_42, x40_43, x40_44, x40_47, x40_48, x40_51, x40_52, x40_53, x40_54, x40_55, x40_59, x40_60, x40_63, x40_66, x40_67, x40_70, x40_72, x40_73, x40_76, x40_77, x40_80, x40_82, x40_83, x40_84, x40_87, x40_88, x40_89, x40_92, x40_95, x40_96, x40_99, x40_100, x40_103, x40_104, x40_105, x40_108, x40_111, x40_112, x40_114, x40_117, x40_118, x40_119, x40_120, x40_123, x40_124, x40_125, x40_127, x40_130, x40_131, x40_134, x40_135, x40_136, x40_139, x40_140, x40_141, x40_144, x40_145, x40_148, x40_149, x40_150, x40_153, x40_154, x40_157, x40_158, x40_159, x40_162, x40_163, x40_164, x40_167, x40_168, x40_169, x40_171, x40_174, x40_175, x40_176, x40_179, x40_182, x40_183, x40_185, x40_186, x40_189, x40_192, x40_193, x40_196, x40_197, x40_198, x40_201, x40_202, x40_205, x40_206, x40_207, x40_208, x40_211, x40_212, x40_215, x40_216, x40_217, x40_218, x40_221, x40_224, x40_225, x40_228, x40_229, x40_230, x40_233, x40_234, x40_237, x40_238, x40_239, x40_240, x40_241, x40_242, x40_243, x40_246, x40_249, x40_250, x40_252, x40_253, x40_256, x40_259, x40_260, x40_263, x40_264, x40_265, x40_268, x40_269, x40_272, x40_273, x40_276, x40_277, x40_278, x40_279, x40_280, x40_283, x40_286, x40_287, x40_290, x40_291, x40_292, x40_295, x40_296, x40_299, x40_300, x40_301, x40_304, x40_305, x40_306, x40_307, x40_308, x40_311, x40_312, x40_315, x40_316, x40_319, x40_320, x40_321, x40_322, x40_323, x40_324, x40_325, x40_328, x40_329, x40_332, x40_333, x40_334, x40_335, x40_338, x40_341, x40_342, x40_345, x40_346, x40_349, x40_350, x40_351, x40_352, x40_353, x40_354, x40_355, x40_358, x40_361, x40_364, x40_365, x40_367, x40_368, x40_371, x40_374, x40_375, x40_378, x40_379, x40_380, x40_383, x40_384, x40_385, x40_386, x40_387, x40_388, x40_389, x40_392, x40_393, x40_394, x40_397, x40_398, x40_399, x40_402, x40_405, x40_406, fcn_0_19, fcn_0_22, fcn_0_26, fcn_0_46, fcn_0_47, fcn_0_48, fcn_0_54, fcn_0_55, fcn_0_56, if_true, if_false, eq_self, Int.reduceEq, Int.reduceLT, Int.reduceLE, Int.reduceAdd, Int.reduceSub, Int.reduceMul, Int.reduceToNat, Nat.reduceAdd, Nat.reduceMul, Nat.reduceEqDiff, Int.toNat_natCast, wrap_id, if_pos hk, if_neg ha, h2, zcI_r, mu_s, if_neg (show ¬ (n : Int) < 0 by omega), if_pos (show 16 < (w : Int) by omega)]
      · simp (disch := first | exact obC_0 | omega | (simp only [aN1_12, aN1_15, aN1_19, aN1_37, aN1_38, aN1_39, aN1_41, aN1_42, aN1_43]; omega) | (simp only [List.length_cons, List.length_nil]; omega)) only [en40, x40_0, x40_1, x40_3, x40_4, x40_7, x40_10, x40_11, x40_14, x40_15, x40_16, x40_19, x40_20, x40_23, x40_24, x40_25, x40_28, x40_29, x40_32, x40_33, x40_34, x40_35, x40_36, x40_37, x40_40, x40_41, x40_42, x40_43, x40_44, x40_47, x40_48, x40_51, x40_52, x40_53, x40_54, x40_55, x40_59, x40_60, x40_63, x40_66, x40_67, x40_70, x40_72, x40_73, x40_76, x40_77, x40_80, x40_82, x40_83, x40_84, x40_87, x40_88, x40_89, x40_92, x40_95, x40_96, x40_99, x40_100, x40_103, x40_104, x40_105, x40_108, x40_111, x40_112, x40_114, x40_117, x40_118, x40_119, x40_120, x40_123, x40_124, x40_125, x40_127, x40_130, x40_131, x40_134, x40_135, x40_136, x40_139, x40_140, x40_141, x40_144, x40_145, x40_148, x40_149, x40_150, x40_153, x40_154, x40_157, x40_158, x40_159, x40_162, x40_163, x40_164, x40_167, x40_168, x40_169, x40_171, x40_174, x40_175, x40_176, x40_179, x40_182, x40_183, x40_185, x40_186, x40_189, x40_192, x40_193, x40_196, x40_197, x40_198, x40_201, x40_202, x40_205, x40_206, x40_207, x40_208, x40_211, x40_212, x40_215, x40_216, x40_217, x40_218, x40_221, x40_224, x40_225, x40_228, x40_229, x40_230, x40_233, x40_234, x40_237, x40_238, x40_239, x40_240, x40_241, x40_242, x40_243, x40_246, x40_249, x40_250, x40_252, x40_253, x40_256, x40_259, x40_260, x40_263, x40_264, x40_265, x40_268, x40_269, x40_272, x40_273, x40_276, x40_277, x40_278, x40_279, x40_280, x40_283, x40_286, x40_287, x40_290, x40_291, x40_292, x40_295, x40_296, x40_299, x40_300, x40_301, x40_304, x40_305, x40_306, x40_307, x40_308, x40_311, x40_312, x40_315, x40_316, x40_319, x40_320, x40_321, x40_322, x40_323, x40_324, x40_325, x40_328, x40_329, x40_332, x40_333, x40_334, x40_335, x40_338, x40_341, x40_342, x40_345, x40_346, x40_349, x40_350, x40_351, x40_352, x40_353, x40_354, x40_355, x40_358, x40_361, x40_364, x40_365, x40_367, x40_368, x40_371, x40_374, x40_375, x40_378, x40_379, x40_380, x40_383, x40_384, x40_385, x40_386, x40_387, x40_388, x40_389, x40_392, x40_393, x40_394, x40_397, x40_398, x40_399, x40_402, x40_405, x40_406, fcn_0_19, fcn_0_22, fcn_0_26, fcn_0_46, fcn_0_47, fcn_0_48, fcn_0_54, fcn_0_55, fcn_0_56, if_true, if_false, eq_self, Int.reduceEq, Int.reduceLT, Int.reduceLE, Int.reduceAdd, Int.reduceSub, Int.reduceMul, Int.reduceToNat, Nat.reduceAdd, Nat.reduceMul, Nat.reduceEqDiff, Int.toNat_natCast, wrap_id, if_neg hk, h2, zcI_r, mu_s, if_neg (show ¬ (n : Int) < 0 by omega), if_pos (show 16 < (w : Int) by omega)]
def WD (a b k j : Nat) : Prop := k = 19 ∧ a ≤ j ∧ j < b
theorem WD_sub {a b c d k j : Nat} (h1 : a ≤ c) (h2 : d ≤ b) (h : WD c d k j) : WD a b k j := ⟨h.1, by have := h.2.1; omega, by have := h.2.2; omega⟩
theorem WD_k {s s' : Mem} {a b k j : Nat} (f : Fr (WD a b) s s') (h : k ≠ 19) : s' k j = s k j := f _ _ (fun z => h z.1)
theorem WD_RR {s s' : Mem} {a b n : Nat} {e : Jvm.Term} (f : Fr (WD a b) s s') (h : RR s e n) : RR s' e n := RR_put h (fun k j hk _ _ => WD_k f (by omega))
/-- the loop over the nodes: those of one expression -/
def MT (d L : Nat) (W : Nat → Nat) (mo : Int) (e : Jvm.Term) : Prop := ∀ (n : Nat) (s : Mem) (l3 l4 : AV), RR s e n → n + esz e ≤ 220 → ixb L e → (∀ g, g < L → s 38 g = W g) → (∀ g, g < L → W g ≤ 16) →
  (¬ tw W e → ∃ s', Ze d 40 126 [aR 0, aI mo, aI (((n + esz e : Nat) : Int) - 1), l3, l4] [] s = Ze d 40 126 [aR 0, aI mo, aI ((n : Int) - 1), l3, l4] [] s' ∧ WE s' W e n ∧ Fr (WD n (n + esz e)) s s') ∧
  (tw W e → ∃ s', Ze d 40 126 [aR 0, aI mo, aI (((n + esz e : Nat) : Int) - 1), l3, l4] [] s = rI 0 s' ∧ Fr (WD n (n + esz e)) s s')
theorem tw_head {W : Nat → Nat} {e : Jvm.Term} (h : ¬ tw W e) : wE W e ≤ 16 := by
  revert h
  fun_cases tw W e with
  | case1 => exact fun h => Nat.le_of_not_lt (fun z => h (Or.inl z))
  | case2 => exact fun h => Nat.le_of_not_lt (fun z => h (Or.inl z))
  | case3 => exact fun h => Nat.le_of_not_lt (fun z => h (Or.inl z))
  | case4 => exact fun h => Nat.le_of_not_lt (fun z => h (Or.inl z))
  | case5 => exact fun h => Nat.le_of_not_lt h
/-- the head of an expression, once its parts are done -/
theorem mt_head {d n w : Nat} {W : Nat → Nat} {mo : Int} {e : Jvm.Term} {s s1 : Mem} {l3 l4 : AV} (hn : n + esz e ≤ 220) (hw : w ≤ 40) (hwe : w = min 17 (wE W e)) (F : Fr (WD (n + 1) (n + esz e)) s s1) (hz : Ze d 40 126 [aR 0, aI mo, aI (((n + esz e : Nat) : Int) - 1), l3, l4] [] s = Ze d 40 126 [aR 0, aI mo, aI n, l3, l4] [] s1)
    (h : ¬ (s1 12 n = 0 ∧ s1 15 n < 0) ∧ Zc d 39 [aR 0, aI n] s1 = rI w s1) :
    (wE W e ≤ 16 → ∃ s', Ze d 40 126 [aR 0, aI mo, aI (((n + esz e : Nat) : Int) - 1), l3, l4] [] s = Ze d 40 126 [aR 0, aI mo, aI ((n : Int) - 1), l3, l4] [] s' ∧ s' 19 n = wE W e ∧ (∀ j, j ≠ n → s' 19 j = s1 19 j) ∧ Fr (WD n (n + esz e)) s s') ∧
    (¬ wE W e ≤ 16 → ∃ s', Ze d 40 126 [aR 0, aI mo, aI (((n + esz e : Nat) : Int) - 1), l3, l4] [] s = rI 0 s' ∧ Fr (WD n (n + esz e)) s s') := by
  have hp := esz_pos e
  obtain ⟨h1, h2⟩ := ms_node (d := d) (n := n) (mo := mo) (w := w) (s := s1) (by omega) hw (Or.inr h) l3 l4
  have F' : Fr (WD n (n + esz e)) s (mu s1 19 n w) := (F.mono (fun _ _ => WD_sub (Nat.le_succ _) (Nat.le_refl _))).mu ⟨rfl, Nat.le_refl _, by omega⟩
  refine ⟨fun z => ⟨_, hz.trans (h1 (by omega)), ?_, fun j hj => mu_i hj, F'⟩, fun z => ⟨_, hz.trans (h2 (by omega)), F'⟩⟩
  rw [mu_s, hwe, show min 17 (wE W e) = wE W e by omega]
theorem mt_old {d L : Nat} {W : Nat → Nat} {mo : Int} {a : Jvm.Term} (hd : 2 ≤ d) (ih : MT d L W mo a) : MT d L W mo (.old a) := by
  intro n s l3 l4 hR hn hix hW hW16
  obtain ⟨h1, h2, h3, h4, h5⟩ := hR
  have hsz : esz (.old a) = 1 + esz a := rfl
  obtain ⟨i1, i2⟩ := ih (n + 1) s l3 l4 h5 (by omega) hix hW hW16
  rw [show n + 1 + esz a = n + esz (.old a) by omega] at i1 i2
  have hpa := esz_pos a
  by_cases ha : tw W a
  · obtain ⟨s', q1, q2⟩ := i2 ha
    exact ⟨fun z => absurd (Or.inr ha) z, fun _ => ⟨s', q1, q2.mono (fun _ _ => WD_sub (by omega) (by omega))⟩⟩
  · obtain ⟨s1, q1, q2, q3⟩ := i1 ha
    have hwa := WE_head q2
    have ha16 := tw_head ha
    have hh := wo_old (d := d) (n := n) (a := n + 1) (s := s1) hd (by omega) (by rw [WD_k q3 (by decide), h1]) (by rw [WD_k q3 (by decide), h2]) (by omega) hwa (by rw [WD_k q3 (by decide), h3])
    obtain ⟨g1, g2⟩ := mt_head (W := W) (e := .old a) (w := wE W a) hn (by omega) (by simp only [wE]; omega) q3 (by rw [q1, show (((n + 1 : Nat) : Int) - 1) = n by omega]) ⟨fun z => by rw [WD_k q3 (by decide), h1] at z; exact absurd z.1 (by decide), hh⟩
    refine ⟨fun z => ?_, fun z => ?_⟩
    · obtain ⟨s', p1, p2, p3, p4⟩ := g1 (Nat.le_of_not_lt (fun y => z (Or.inl y)))
      exact ⟨s', p1, ⟨p2, WE_put q2 (fun j h1 h2 => p3 j (by omega))⟩, p4⟩
    · exact g2 (fun y => absurd y (Nat.not_le.mpr (z.resolve_right ha)))
theorem mt_mul {d L : Nat} {W : Nat → Nat} {mo : Int} {x a : Jvm.Term} (hd : 2 ≤ d) (ih : MT d L W mo a) : MT d L W mo (.mul x a) := by
  intro n s l3 l4 hR hn hix hW hW16
  have hx : ∃ h l, x = .add (.arg h) (.arg l) := by
    revert hR
    generalize hy : Jvm.Term.mul x a = y
    fun_cases RR s y n with
    | case2 h l a' n => cases hy; exact fun _ => ⟨h, l, rfl⟩
    | case7 => intro h; exact h.elim
    | _ => exact (nomatch hy)
  obtain ⟨h, l, rfl⟩ := hx
  obtain ⟨h1, h2, h3, h4, h5, h6, h7, h8⟩ := hR
  have hsz : esz (.mul (.add (.arg h) (.arg l)) a) = 1 + esz a := rfl
  obtain ⟨i1, i2⟩ := ih (n + 1) s l3 l4 h8 (by omega) hix hW hW16
  rw [show n + 1 + esz a = n + esz (.mul (.add (.arg h) (.arg l)) a) by omega] at i1 i2
  have hpa := esz_pos a
  by_cases ha : tw W a
  · obtain ⟨s', q1, q2⟩ := i2 ha
    exact ⟨fun z => absurd (Or.inr ha) z, fun _ => ⟨s', q1, q2.mono (fun _ _ => WD_sub (by omega) (by omega))⟩⟩
  · obtain ⟨s1, q1, q2, q3⟩ := i1 ha
    have hh := wo_bits (d := d) (n := n) (a := n + 1) (h := h) (l := l) (s := s1) hd (by omega) (by rw [WD_k q3 (by decide), h1]) (by rw [WD_k q3 (by decide), h5]) (by omega) (by rw [WD_k q3 (by decide), h2]) (by rw [WD_k q3 (by decide), h3]) ⟨h4.2, h4.1⟩ (by rw [WD_k q3 (by decide), h6])
    obtain ⟨g1, g2⟩ := mt_head (W := W) (e := .mul (.add (.arg h) (.arg l)) a) (w := h - l + 1) hn (by omega) (by simp only [wE]; omega) q3 (by rw [q1, show (((n + 1 : Nat) : Int) - 1) = n by omega]) ⟨fun z => by rw [WD_k q3 (by decide), h1] at z; exact absurd z.1 (by decide), hh⟩
    refine ⟨fun z => ?_, fun z => ?_⟩
    · obtain ⟨s', p1, p2, p3, p4⟩ := g1 (Nat.le_of_not_lt (fun y => z (Or.inl y)))
      exact ⟨s', p1, ⟨p2, WE_put q2 (fun j h1 h2 => p3 j (by omega))⟩, p4⟩
    · exact g2 (fun y => absurd y (Nat.not_le.mpr (z.resolve_right ha)))
theorem mt_div {d L : Nat} {W : Nat → Nat} {mo : Int} {c a b : Jvm.Term} (hd : 2 ≤ d) (iha : MT d L W mo a) (ihb : MT d L W mo b) : MT d L W mo (.div c (.rem a b)) := by
  intro n s l3 l4 hR hn hix hW hW16
  have hx : ∃ h, c = .arg h := by
    revert hR
    generalize hy : Jvm.Term.div c (.rem a b) = y
    fun_cases RR s y n with
    | case3 c' a' b' n => cases hy; exact fun _ => ⟨c', rfl⟩
    | case7 => intro h; exact h.elim
    | _ => exact (nomatch hy)
  obtain ⟨c, rfl⟩ := hx
  obtain ⟨h1, h2, h3, h4, h5, h6, h7⟩ := hR
  have hsz : esz (.div (.arg c) (.rem a b)) = 1 + esz a + esz b := rfl
  have hpa := esz_pos a
  have hpb := esz_pos b
  have hc0 : ¬ (c : Int) = 0 := by unfold two at h2; omega
  obtain ⟨i1, i2⟩ := ihb (n + 1 + esz a) s l3 l4 h7 (by omega) hix.2 hW hW16
  rw [show n + 1 + esz a + esz b = n + esz (.div (.arg c) (.rem a b)) by omega] at i1 i2
  by_cases hb : tw W b
  · obtain ⟨s', q1, q2⟩ := i2 hb
    exact ⟨fun z => absurd (Or.inr (Or.inr hb)) z, fun _ => ⟨s', q1, q2.mono (fun _ _ => WD_sub (by omega) (by omega))⟩⟩
  obtain ⟨s1, q1, q2, q3⟩ := i1 hb
  obtain ⟨j1, j2⟩ := iha (n + 1) s1 l3 l4 (WD_RR q3 h6) (by omega) hix.1 (fun g hg => by rw [WD_k q3 (by decide), hW g hg]) hW16
  by_cases ha : tw W a
  · obtain ⟨s', p1, p2⟩ := j2 ha
    exact ⟨fun z => absurd (Or.inr (Or.inl ha)) z, fun _ => ⟨s', q1.trans p1, (q3.mono (fun _ _ => WD_sub (by omega) (by omega))).tr (p2.mono (fun _ _ => WD_sub (by omega) (by omega)))⟩⟩
  obtain ⟨s2, p1, p2, p3⟩ := j1 ha
  have hwa := WE_head p2
  have hB : WE s2 W b (n + 1 + esz a) := WE_put q2 (fun j h1 h2 => p3 _ _ (fun z => by have := z.2.2; omega))
  have hwb := WE_head hB
  have ha16 := tw_head ha
  have hb16 := tw_head hb
  have F2 : Fr (WD (n + 1) (n + esz (.div (.arg c) (.rem a b)))) s s2 := (q3.mono (fun _ _ => WD_sub (by omega) (by omega))).tr (p3.mono (fun _ _ => WD_sub (by omega) (by omega)))
  have hh := wo_two (d := d) (n := n) (a := n + 1) (b := n + 1 + esz a) (c := c) (s := s2) hd (by omega) h2 (by rw [WD_k F2 (by decide), h1]) (by rw [WD_k F2 (by decide), h3]) (by omega) (by rw [WD_k F2 (by decide), h4]) (by omega) hwa hwb ⟨ha16, hb16⟩
  obtain ⟨g1, g2⟩ := mt_head (W := W) (e := .div (.arg c) (.rem a b)) hn (by omega) rfl F2 (by rw [q1, p1, show (((n + 1 : Nat) : Int) - 1) = n by omega]) ⟨fun z => by rw [WD_k F2 (by decide), h1] at z; exact hc0 z.1, hh⟩
  refine ⟨fun z => ?_, fun z => ?_⟩
  · obtain ⟨s', r1, r2, r3, r4⟩ := g1 (Nat.le_of_not_lt (fun y => z (Or.inl y)))
    exact ⟨s', r1, ⟨r2, WE_put p2 (fun j h1 h2 => r3 j (by omega)), WE_put hB (fun j h1 h2 => r3 j (by omega))⟩, r4⟩
  · exact g2 (fun y => absurd y (Nat.not_le.mpr (z.resolve_right (fun q => q.elim ha hb))))
theorem mt_sub {d L : Nat} {W : Nat → Nat} {mo : Int} {c a b : Jvm.Term} (hd : 2 ≤ d) (ihc : MT d L W mo c) (iha : MT d L W mo a) (ihb : MT d L W mo b) : MT d L W mo (.sub c (.rem a b)) := by
  intro n s l3 l4 hR hn hix hW hW16
  obtain ⟨h1, h2, h3, h4, h5, h6, h7, h8⟩ := hR
  have hsz : esz (.sub c (.rem a b)) = 1 + esz c + esz a + esz b := rfl
  have hpc := esz_pos c
  have hpa := esz_pos a
  have hpb := esz_pos b
  obtain ⟨i1, i2⟩ := ihb (n + 1 + esz c + esz a) s l3 l4 h8 (by omega) hix.2.2 hW hW16
  rw [show n + 1 + esz c + esz a + esz b = n + esz (.sub c (.rem a b)) by omega] at i1 i2
  by_cases hb : tw W b
  · obtain ⟨s', q1, q2⟩ := i2 hb
    exact ⟨fun z => absurd (Or.inr (Or.inr (Or.inr hb))) z, fun _ => ⟨s', q1, q2.mono (fun _ _ => WD_sub (by omega) (by omega))⟩⟩
  obtain ⟨s1, q1, q2, q3⟩ := i1 hb
  obtain ⟨j1, j2⟩ := iha (n + 1 + esz c) s1 l3 l4 (WD_RR q3 h7) (by omega) hix.2.1 (fun g hg => by rw [WD_k q3 (by decide), hW g hg]) hW16
  by_cases ha : tw W a
  · obtain ⟨s', p1, p2⟩ := j2 ha
    exact ⟨fun z => absurd (Or.inr (Or.inr (Or.inl ha))) z, fun _ => ⟨s', q1.trans p1, (q3.mono (fun _ _ => WD_sub (by omega) (by omega))).tr (p2.mono (fun _ _ => WD_sub (by omega) (by omega)))⟩⟩
  obtain ⟨s2, p1, p2, p3⟩ := j1 ha
  have F2 : Fr (WD (n + 1) (n + esz (.sub c (.rem a b)))) s s2 := (q3.mono (fun _ _ => WD_sub (by omega) (by omega))).tr (p3.mono (fun _ _ => WD_sub (by omega) (by omega)))
  obtain ⟨k1, k2⟩ := ihc (n + 1) s2 l3 l4 (WD_RR F2 h6) (by omega) hix.1 (fun g hg => by rw [WD_k F2 (by decide), hW g hg]) hW16
  by_cases hc : tw W c
  · obtain ⟨s', r1, r2⟩ := k2 hc
    exact ⟨fun z => absurd (Or.inr (Or.inl hc)) z, fun _ => ⟨s', (q1.trans p1).trans r1, (F2.mono (fun _ _ => WD_sub (by omega) (by omega))).tr (r2.mono (fun _ _ => WD_sub (by omega) (by omega)))⟩⟩
  obtain ⟨s3, r1, r2, r3⟩ := k1 hc
  have F3 : Fr (WD (n + 1) (n + esz (.sub c (.rem a b)))) s s3 := F2.tr (r3.mono (fun _ _ => WD_sub (by omega) (by omega)))
  have hA : WE s3 W a (n + 1 + esz c) := WE_put p2 (fun j h1 h2 => r3 _ _ (fun z => by have := z.2.2; omega))
  have hB : WE s3 W b (n + 1 + esz c + esz a) := WE_put (WE_put q2 (fun j h1 h2 => p3 _ _ (fun z => by have := z.2.2; omega))) (fun j h1 h2 => r3 _ _ (fun z => by have := z.2.2; omega))
  have ha16 := tw_head ha
  have hb16 := tw_head hb
  have hh := wo_mux (d := d) (n := n) (a := n + 1) (b := n + 1 + esz c) (c := n + 1 + esz c + esz a) (s := s3) hd (by omega) (by rw [WD_k F3 (by decide), h1]) (by rw [WD_k F3 (by decide), h2]) (by omega) (by rw [WD_k F3 (by decide), h3]) (by omega) (by rw [WD_k F3 (by decide), h4]) (by omega) (WE_head hA) (WE_head hB) ⟨ha16, hb16⟩
  obtain ⟨g1, g2⟩ := mt_head (W := W) (e := .sub c (.rem a b)) (w := max (wE W a) (wE W b)) hn (by omega) (by simp only [wE]; omega) F3 (by rw [q1, p1, r1, show (((n + 1 : Nat) : Int) - 1) = n by omega]) ⟨fun z => by rw [WD_k F3 (by decide), h1] at z; exact absurd z.1 (by decide), hh⟩
  refine ⟨fun z => ?_, fun z => ?_⟩
  · obtain ⟨s', m1, m2, m3, m4⟩ := g1 (Nat.le_of_not_lt (fun y => z (Or.inl y)))
    exact ⟨s', m1, ⟨m2, WE_put r2 (fun j h1 h2 => m3 j (by omega)), WE_put hA (fun j h1 h2 => m3 j (by omega)), WE_put hB (fun j h1 h2 => m3 j (by omega))⟩, m4⟩
  · exact g2 (fun y => absurd y (Nat.not_le.mpr (z.resolve_right (fun q => q.elim hc (fun q => q.elim ha hb)))))
theorem RR_leaf {s : Mem} {e : Jvm.Term} {n : Nat} (h : RR s e n) (h1 : ∀ a, e ≠ .old a) (h2 : ∀ x a, e ≠ .mul x a) (h3 : ∀ c a b, e ≠ .div c (.rem a b)) (h4 : ∀ c a b, e ≠ .sub c (.rem a b)) : (∃ g, e = .index g ∧ s 12 n = 0 ∧ s 15 n = (g : Nat) ∧ g < 24 ∧ s 18 n = ((n + 1 : Nat) : Int)) ∨ (∃ v, e = .arg v ∧ s 12 n = 1 ∧ s 13 n = (v : Nat) ∧ v ≤ 65535 ∧ s 18 n = ((n + 1 : Nat) : Int)) := by
  revert h
  fun_cases RR s e n with
  | case1 a n => exact absurd rfl (h1 a)
  | case2 h l a n => exact absurd rfl (h2 _ a)
  | case3 c a b n => exact absurd rfl (h3 _ a b)
  | case4 c a b n => exact absurd rfl (h4 _ a b)
  | case5 g n => exact fun h => Or.inl ⟨g, rfl, h⟩
  | case6 v n => exact fun h => Or.inr ⟨v, rfl, h⟩
  | case7 => intro h; exact h.elim
theorem mt_all {d L : Nat} {W : Nat → Nat} {mo : Int} (hd : 2 ≤ d) (e : Jvm.Term) : MT d L W mo e := by
  fun_induction esz e with
  | case1 a ih => exact mt_old hd ih
  | case2 x a ih => exact mt_mul hd ih
  | case3 c a b iha ihb => exact mt_div hd iha ihb
  | case4 c a b ihc iha ihb => exact mt_sub hd ihc iha ihb
  | case5 e h1 h2 h3 h4 =>
    intro n s l3 l4 hR hn hix hW hW16
    obtain ⟨g, rfl, g1, g2, g3, g4⟩ | ⟨v, rfl, g1, g2, g3, g4⟩ := RR_leaf hR h1 h2 h3 h4
    · have hh := wo_index (d := d) (n := n) (g := g) (s := s) hd (by have := esz_pos (.index g); omega) g1 g2 g3 (hW g hix)
      have h16 := hW16 g hix
      obtain ⟨q1, q2⟩ := mt_head (d := d) (mo := mo) (l3 := l3) (l4 := l4) (W := W) (e := .index g) (w := W g) hn (by omega) (by simp only [wE]; omega) (Fr.rf s) (by rw [show (((n + esz (.index g) : Nat) : Int) - 1) = n by show ((n + 1 : Nat) : Int) - 1 = n; omega]) ⟨fun z => by rw [g2] at z; omega, hh⟩
      refine ⟨fun z => ?_, fun z => ?_⟩
      · obtain ⟨s', m1, m2, m3, m4⟩ := q1 h16
        exact ⟨s', m1, m2, m4⟩
      · exact absurd z (Nat.not_lt.mpr h16)
    · have hh := wo_num (d := d) (n := n) (v := v) (s := s) hd (by have := esz_pos (.arg v); omega) g1 g2 (by omega)
      have h16 : nbt v ≤ 16 := nbt_le (by omega)
      obtain ⟨q1, q2⟩ := mt_head (d := d) (mo := mo) (l3 := l3) (l4 := l4) (W := W) (e := .arg v) (w := nbt v) hn (by omega) (by simp only [wE]; omega) (Fr.rf s) (by rw [show (((n + esz (.arg v) : Nat) : Int) - 1) = n by show ((n + 1 : Nat) : Int) - 1 = n; omega]) ⟨fun z => by rw [g1] at z; exact absurd z.1 (by decide), hh⟩
      refine ⟨fun z => ?_, fun z => ?_⟩
      · obtain ⟨s', m1, m2, m3, m4⟩ := q1 h16
        exact ⟨s', m1, m2, m4⟩
      · exact absurd z (Nat.not_lt.mpr h16)
/-- the widths of all that the nodes hold -/
def WEs (s : Mem) (W : Nat → Nat) : Nat → List (Option Jvm.Term) → Prop
  | _, [] => True
  | n, none :: r => WEs s W (n + 1) r
  | n, some e :: r => WE s W e n ∧ WEs s W (n + esz e) r
def twA (W : Nat → Nat) (cv : List (Option Jvm.Term)) : Prop := ∃ e, some e ∈ cv ∧ tw W e
theorem WEs_put {s s' : Mem} {W : Nat → Nat} : ∀ (cv : List (Option Jvm.Term)) (n : Nat), (∀ j, n ≤ j → s' 19 j = s 19 j) → WEs s W n cv → WEs s' W n cv
  | [], _, _, _ => trivial
  | none :: r, n, g, h => WEs_put r (n + 1) (fun j hj => g j (by omega)) h
  | some e :: r, n, g, h => ⟨WE_put h.1 (fun j h1 _ => g j h1), WEs_put r (n + esz e) (fun j hj => g j (by omega)) h.2⟩
theorem ms_nodes {d L : Nat} {W : Nat → Nat} {mo : Int} {N : Nat} (hd : 2 ≤ d) (hN : N ≤ 220) : ∀ (cv : List (Option Jvm.Term)) (n : Nat) (s : Mem) (l3 l4 : AV), CVs s n cv N → (∀ e, some e ∈ cv → ixb L e) → (∀ g, g < L → s 38 g = W g) → (∀ g, g < L → W g ≤ 16) →
    (¬ twA W cv → ∃ s', Ze d 40 126 [aR 0, aI mo, aI ((N : Int) - 1), l3, l4] [] s = Ze d 40 126 [aR 0, aI mo, aI ((n : Int) - 1), l3, l4] [] s' ∧ WEs s' W n cv ∧ Fr (WD n N) s s') ∧
    (twA W cv → ∃ s', Ze d 40 126 [aR 0, aI mo, aI ((N : Int) - 1), l3, l4] [] s = rI 0 s' ∧ Fr (WD n N) s s') := by
  intro cv
  induction cv with
  | nil =>
    intro n s l3 l4 hC hix hW hW16
    have hn : n = N := hC
    subst hn
    exact ⟨fun _ => ⟨s, rfl, trivial, Fr.rf s⟩, fun ⟨e, h, _⟩ => (nomatch h)⟩
  | cons x cv ih =>
    intro n s l3 l4 hC hix hW hW16
    cases x with
    | none =>
      obtain ⟨c1, c2, c3⟩ := hC
      have hle := CVs_le cv (n + 1) N c3
      obtain ⟨i1, i2⟩ := ih (n + 1) s l3 l4 c3 (fun e he => hix e (List.mem_cons_of_mem _ he)) hW hW16
      have hiff : twA W (none :: cv) ↔ twA W cv := ⟨fun ⟨e, h1, h2⟩ => ⟨e, (List.mem_cons.mp h1).resolve_left nofun, h2⟩, fun ⟨e, h1, h2⟩ => ⟨e, List.mem_cons_of_mem _ h1, h2⟩⟩
      rw [hiff]
      refine ⟨fun z => ?_, fun z => ?_⟩
      · obtain ⟨s1, q1, q2, q3⟩ := i1 z
        have hm := (ms_node (d := d) (n := n) (mo := mo) (w := 0) (s := s1) (by omega) (by decide) (Or.inl ⟨by rw [WD_k q3 (by decide), c1], by rw [WD_k q3 (by decide), c2], rfl⟩) l3 l4).1 (by decide)
        rw [show ((n + 1 : Nat) : Int) - 1 = n by omega] at q1
        exact ⟨_, q1.trans hm, WEs_put cv (n + 1) (fun j hj => mu_i (by omega)) q2, (q3.mono (fun _ _ => WD_sub (by omega) (Nat.le_refl _))).mu ⟨rfl, Nat.le_refl _, by omega⟩⟩
      · obtain ⟨s1, q1, q2⟩ := i2 z
        exact ⟨s1, q1, q2.mono (fun _ _ => WD_sub (by omega) (Nat.le_refl _))⟩
    | some e =>
      obtain ⟨c1, c2⟩ := hC
      have hle := CVs_le cv (n + esz e) N c2
      obtain ⟨i1, i2⟩ := ih (n + esz e) s l3 l4 c2 (fun e he => hix e (List.mem_cons_of_mem _ he)) hW hW16
      have hiff : twA W (some e :: cv) ↔ tw W e ∨ twA W cv := by
        constructor
        · rintro ⟨e', h1, h2⟩
          rcases List.mem_cons.mp h1 with h | h
          · cases h; exact Or.inl h2
          · exact Or.inr ⟨e', h, h2⟩
        · rintro (h | ⟨e', h1, h2⟩)
          · exact ⟨e, List.mem_cons_self, h⟩
          · exact ⟨e', List.mem_cons_of_mem _ h1, h2⟩
      rw [hiff]
      by_cases hc : twA W cv
      · obtain ⟨s1, q1, q2⟩ := i2 hc
        exact ⟨fun z => absurd (Or.inr hc) z, fun _ => ⟨s1, q1, q2.mono (fun _ _ => WD_sub (by omega) (Nat.le_refl _))⟩⟩
      · obtain ⟨s1, q1, q2, q3⟩ := i1 hc
        obtain ⟨j1, j2⟩ := mt_all (d := d) (L := L) (W := W) (mo := mo) hd e n s1 l3 l4 (WD_RR q3 c1) (by omega) (hix e List.mem_cons_self) (fun g hg => by rw [WD_k q3 (by decide), hW g hg]) hW16
        refine ⟨fun z => ?_, fun z => ?_⟩
        · obtain ⟨s2, p1, p2, p3⟩ := j1 (fun y => z (Or.inl y))
          exact ⟨s2, q1.trans p1, ⟨p2, WEs_put cv (n + esz e) (fun j hj => p3 _ _ (fun z => by have := z.2.2; omega)) q2⟩, (q3.mono (fun _ _ => WD_sub (by omega) (Nat.le_refl _))).tr (p3.mono (fun _ _ => WD_sub (Nat.le_refl _) (by omega)))⟩
        · obtain ⟨s2, p1, p2⟩ := j2 (z.resolve_right hc)
          exact ⟨s2, q1.trans p1, (q3.mono (fun _ _ => WD_sub (by omega) (Nat.le_refl _))).tr (p2.mono (fun _ _ => WD_sub (Nat.le_refl _) (by omega)))⟩
