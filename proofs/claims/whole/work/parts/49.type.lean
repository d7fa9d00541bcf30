/-- takeExpression: the whole -/
theorem t_takeExpression {d n p j : Nat} (hd : 8 ≤ d) (s : Mem) (ho : okT s) (hb : s 0 5 = 0) (hat : s 0 2 = j) (hj : j ≤ (tx s).2) (hp : sk (tx s) j = p) (hnd : s 0 32 = n) (hnj : n ≤ j) :
    match pEx (tx s) 6 p with
    | .ok (e, q) => ∃ (s' : Mem) (j' : Nat), Zc d 22 [aR 0] s = rI n s' ∧ RE s' e n ∧ s' 0 32 = ((n + esz e : Nat) : Int) ∧ s' 0 2 = j' ∧ sk (tx s) j' = q ∧ j' ≤ (tx s).2 ∧ p < j' ∧ n + esz e ≤ j' ∧ Fr (TE n 0) s s'
    | .error f => ∃ s', Zc d 22 [aR 0] s = rI 0 s' ∧ s' 0 5 = 1 ∧ s' 0 3 = f ∧ Fr (TX' n 0) s s' := by
  obtain ⟨d, rfl⟩ : ∃ e, d = e + 1 := ⟨d - 1, by omega⟩
  have hin : Zc (d + 1) 22 [aR 0] s = Ze d 22 9 [aR 0, aI 0, aI (-1), aI n, aU, aU, aU] [] s := by
    simp (disch := first | exact obC_0 | omega | (simp only [aN1_12, aN1_13, aN1_18, aN1_23, aN1_24]; omega) | (simp only [List.length_cons, List.length_nil]; omega)) only [en22, x22_0, x22_1, x22_2, x22_3, x22_4, x22_5, x22_8, x22_10, x22_13, x22_16, x22_17, x22_20, x22_21, x22_24, x22_26, x22_27, x22_29, x22_32, x22_34, x22_35, x22_37, x22_40, x22_41, x22_42, x22_45, x22_48, x22_51, x22_53, x22_56, x22_59, x22_60, x22_63, x22_64, x22_67, x22_69, x22_72, x22_75, x22_76, x22_77, x22_80, x22_82, x22_83, x22_86, x22_88, x22_89, x22_90, x22_92, x22_95, x22_96, x22_97, x22_100, x22_102, x22_103, x22_106, x22_107, x22_109, x22_110, x22_113, x22_115, x22_118, x22_119, x22_120, x22_123, x22_126, x22_129, x22_130, x22_130i, x22_131, x22_134, x22_135, x22_136, x22_139, x22_140, x22_142, x22_145, x22_146, x22_149, x22_150, x22_151, x22_153, x22_156, x22_157, x22_158, x22_161, x22_162, x22_163, x22_164, x22_167, x22_170, x22_171, x22_174, x22_175, x22_176, x22_177, x22_180, x22_181, x22_182, x22_183, x22_184, x22_186, x22_187, x22_190, x22_192, x22_193, x22_195, x22_196, x22_198, x22_199, x22_202, x22_203, x22_204, x22_205, x22_206, x22_207, x22_210, x22_211, x22_214, x22_215, x22_216, x22_217, x22_218, x22_219, x22_220, x22_221, x22_222, x22_224, x22_226, x22_229, x22_231, x22_233, x22_236, x22_237, x22_240, x22_241, x22_242, x22_243, x22_244, x22_246, x22_248, x22_251, x22_252, x22_255, x22_256, x22_259, x22_260, x22_263, x22_264, x22_266, x22_268, x22_270, x22_273, x22_274, x22_276, x22_279, x22_280, x22_283, x22_286, x22_287, x22_289, x22_292, x22_294, x22_297, x22_299, x22_302, x22_303, x22_304, x22_306, x22_309, x22_312, x22_313, x22_316, x22_318, x22_319, x22_322, x22_323, x22_326, x22_328, x22_329, x22_332, x22_333, fcn_0_19, fcn_0_20, fcn_0_25, fcn_0_30, fcn_0_31, if_true, if_false, eq_self, Int.reduceEq, Int.reduceLT, Int.reduceLE, Int.reduceAdd, Int.reduceSub, Int.reduceMul, Int.reduceToNat, Nat.reduceAdd, Nat.reduceMul, Nat.reduceEqDiff, Int.toNat_natCast, wrap_id, hnd]
  have h := te_all (d := d) (by omega) 6 0 rfl j p n s n aU aU aU ho hb hat hj hp hnd hnj
  unfold OUT at h
  rw [hin]
  split at h
  next e q hq =>
    rw [hq]
    obtain ⟨s', j', l4, l5, l6, h1, h2, h3, h4, h5, h6, h7, h8, h9⟩ := h
    refine ⟨s', j', h1.trans ?_, h2, h3, h4, h5, h6, h7, h8, h9⟩
    have hb' : s' 0 5 = 0 := by rw [(fr_te h9 ho).2.2.1, hb]
    rw [x22_9]
    simp (disch := first | exact obC_0 | omega | (simp only [aN1_12, aN1_13, aN1_18, aN1_23, aN1_24]; omega) | (simp only [List.length_cons, List.length_nil]; omega)) only [en22, x22_0, x22_1, x22_2, x22_3, x22_4, x22_5, x22_8, x22_10, x22_13, x22_16, x22_17, x22_20, x22_21, x22_24, x22_26, x22_27, x22_29, x22_32, x22_34, x22_35, x22_37, x22_40, x22_41, x22_42, x22_45, x22_48, x22_51, x22_53, x22_56, x22_59, x22_60, x22_63, x22_64, x22_67, x22_69, x22_72, x22_75, x22_76, x22_77, x22_80, x22_82, x22_83, x22_86, x22_88, x22_89, x22_90, x22_92, x22_95, x22_96, x22_97, x22_100, x22_102, x22_103, x22_106, x22_107, x22_109, x22_110, x22_113, x22_115, x22_118, x22_119, x22_120, x22_123, x22_126, x22_129, x22_130, x22_130i, x22_131, x22_134, x22_135, x22_136, x22_139, x22_140, x22_142, x22_145, x22_146, x22_149, x22_150, x22_151, x22_153, x22_156, x22_157, x22_158, x22_161, x22_162, x22_163, x22_164, x22_167, x22_170, x22_171, x22_174, x22_175, x22_176, x22_177, x22_180, x22_181, x22_182, x22_183, x22_184, x22_186, x22_187, x22_190, x22_192, x22_193, x22_195, x22_196, x22_198, x22_199, x22_202, x22_203, x22_204, x22_205, x22_206, x22_207, x22_210, x22_211, x22_214, x22_215, x22_216, x22_217, x22_218, x22_219, x22_220, x22_221, x22_222, x22_224, x22_226, x22_229, x22_231, x22_233, x22_236, x22_237, x22_240, x22_241, x22_242, x22_243, x22_244, x22_246, x22_248, x22_251, x22_252, x22_255, x22_256, x22_259, x22_260, x22_263, x22_264, x22_266, x22_268, x22_270, x22_273, x22_274, x22_276, x22_279, x22_280, x22_283, x22_286, x22_287, x22_289, x22_292, x22_294, x22_297, x22_299, x22_302, x22_303, x22_304, x22_306, x22_309, x22_312, x22_313, x22_316, x22_318, x22_319, x22_322, x22_323, x22_326, x22_328, x22_329, x22_332, x22_333, fcn_0_19, fcn_0_20, fcn_0_25, fcn_0_30, fcn_0_31, if_true, if_false, eq_self, Int.reduceEq, Int.reduceLT, Int.reduceLE, Int.reduceAdd, Int.reduceSub, Int.reduceMul, Int.reduceToNat, Nat.reduceAdd, Nat.reduceMul, Nat.reduceEqDiff, Int.toNat_natCast, wrap_id, if_pos hb', if_neg (show ¬ (n : Int) < 0 by omega)]
    rfl
  next f hq =>
    rw [hq]
    exact h
-- types
noncomputable def pFh (T : Tx) (p : Nat) : PR (Nat × Nat) := bd (pNm T p) fun n p1 => bd (pTk T 58 (if cA T p1 = 126 then sk T (p1 + 1) else p1)) fun _ p3 => .ok ((n, if cA T p1 = 126 then 1 else 0), p3)
/-- what field() does where the head is right: field c of the open bundle o (type t, its last field f), name n, back b -/
def fld (s : Mem) (c n b o t : Nat) (f : Int) (j : Nat) : Mem :=
  mu (mu (if f < 0 then mu (mu (mu (mu (mu s 0 2 j) 6 c n) 9 c b) 8 c (-1)) 4 t c
    else mu (mu (mu (mu (mu s 0 2 j) 6 c n) 9 c b) 8 c (-1)) 8 f.toNat c) 11 o c) 0 17 ((c + 1 : Nat) : Int)
def TW (k j : Nat) : Prop := k = 0 ∧ (j = 2 ∨ j = 5 ∨ j = 3)
theorem t_field {d p j o t c : Nat} (hd : 5 ≤ d) (s : Mem) (ho : okT s) (hb : s 0 5 = 0) (hat : s 0 2 = j) (hj : j ≤ (tx s).2) (hp : sk (tx s) j = p) (hop : s 0 18 = ((o + 1 : Nat) : Int)) (ho3 : o < 3) (hot : s 10 o = t) (ht : t < 220) (hc : s 0 17 = c) (hc2 : c < 120) {f : Int} (hf : s 11 o = f) (hf2 : f < 120) :
    match pFh (tx s) p with
    | .ok (nb, q) => ∃ (j' : Nat), Zc d 14 [aR 0] s = rV (fld s c nb.1 nb.2 o t f j') ∧ sk (tx s) j' = q ∧ j' ≤ (tx s).2 ∧ p + 2 ≤ j' ∧ nb.1 < 26 ∧ nb.2 ≤ 1
    | .error e => ∃ s', Zc d 14 [aR 0] s = rV s' ∧ s' 0 5 = 1 ∧ s' 0 3 = e ∧ Fr TW s s' := by
  obtain ⟨d, rfl⟩ : ∃ e, d = e + 1 := ⟨d - 1, by omega⟩
  have hlen := tx_le ho
  have hpj := sk_ge (tx s) j
  have hpl := sk_le (tx s) hj
  rw [hp] at hpj hpl
  have hcr := cA_rng ho p
  have h1 := t_takeName (d := d) (by omega) s ho hat hj
  rw [hp] at h1
  have e1 : (((o + 1 : Nat) : Int) - 1).toNat = o := by omega
  unfold pFh pNm
  by_cases hN : isN (cA (tx s) p)
  · rw [if_pos hN] at h1
    rw [if_pos hN, bd_ok]
    have hpl' : p < (tx s).2 := cA_in (by have := hN.1; omega)
    obtain ⟨a1, a2, a3, a4⟩ := at_st ho ((p : Int) + 1)
    have h2 := t_here (d := d) (by omega) _ a2 (j := p + 1) (a3.trans (by omega)) (by rw [a1]; omega)
    rw [a1, mu_mu] at h2
    have hp1l := sk_le (tx s) (j := p + 1) (by omega)
    have hp1g := sk_ge (tx s) (p + 1)
    have hp1s := sk_sk (tx s) (p + 1)
    generalize sk (tx s) (p + 1) = p1 at *
    have hn : (((cA (tx s) p - 97).toNat : Nat) : Int) = cA (tx s) p - 97 := by have := hN.1; omega
    have hn26 : (cA (tx s) p - 97).toNat < 26 := by have := hN.2; omega
    generalize (cA (tx s) p - 97).toNat = nn at *
    rw [← hn] at h1
    by_cases h126 : cA (tx s) p1 = 126
    · rw [if_pos h126, if_pos h126]
      have hp1l' : p1 < (tx s).2 := cA_in (by omega)
      obtain ⟨b1, b2, b3, b4⟩ := at_st ho ((p1 : Int) + 1)
      by_cases h58 : cA (tx s) (sk (tx s) (p1 + 1)) = 58
      · rw [pTk_ok h58, bd_ok]
        have h3 := t_exp_ok (d := d) (by omega) _ b2 (j := p1 + 1) (b3.trans (by omega)) (by rw [b1]; omega) (c := 58) (by decide) (by rw [b1]; exact h58)
        rw [b1, mu_mu] at h3
        have hq := sk_ge (tx s) (p1 + 1)
        have hql : sk (tx s) (p1 + 1) < (tx s).2 := cA_in (by omega)
        generalize sk (tx s) (p1 + 1) = q at *
        refine ⟨q + 1, ?_, rfl, by omega, by omega, hn26, Nat.le_refl _⟩
        unfold fld
        rw [show ((q + 1 : Nat) : Int) = (q : Int) + 1 by omega]
        by_cases hf0 : f < 0
        · rw [if_pos hf0]
          simp (disch := first | exact obC_0 | omega | (simp only [aN1_10, aN1_11, aN1_4, aN1_6, aN1_8, aN1_9]; omega) | (simp only [List.length_cons, List.length_nil]; omega)) only [en14, x14_0, x14_1, x14_4, x14_5, x14_6, x14_9, x14_10, x14_13, x14_14, x14_15, x14_16, x14_17, x14_18, x14_21, x14_23, x14_26, x14_27, x14_30, x14_31, x14_32, x14_33, x14_36, x14_37, x14_37i, x14_38, x14_41, x14_42, x14_43, x14_46, x14_47, x14_49, x14_52, x14_53, x14_56, x14_59, x14_60, x14_61, x14_64, x14_65, x14_68, x14_69, x14_70, x14_71, x14_74, x14_75, x14_78, x14_79, x14_82, x14_83, x14_86, x14_87, x14_88, x14_89, x14_92, x14_93, x14_96, x14_97, x14_98, x14_99, x14_102, x14_103, x14_106, x14_107, x14_108, x14_109, x14_112, x14_113, x14_116, x14_117, x14_118, x14_121, x14_122, x14_125, x14_126, x14_129, x14_130, x14_133, x14_134, x14_137, x14_138, x14_139, x14_140, x14_141, x14_144, x14_145, x14_146, x14_149, x14_150, x14_153, x14_154, x14_155, x14_156, x14_159, x14_160, x14_161, x14_161i, x14_162, x14_165, x14_166, x14_167, x14_170, fcn_0_10, fcn_0_12, fcn_0_13, fcn_0_14, fcn_0_15, fcn_0_8, if_true, if_false, eq_self, Int.reduceEq, Int.reduceLT, Int.reduceLE, Int.reduceAdd, Int.reduceSub, Int.reduceMul, Int.reduceToNat, Nat.reduceAdd, Nat.reduceMul, Nat.reduceEqDiff, Int.toNat_natCast, wrap_id, h1, h2, mu_mu, h3, zcI_r, zcV_r, mu_s, mu_c, mu_i, hop, e1, hot, h126, hb, hc, hf, if_pos hf0]
          rfl
        · rw [if_neg hf0]
          simp (disch := first | exact obC_0 | omega | (simp only [aN1_10, aN1_11, aN1_4, aN1_6, aN1_8, aN1_9]; omega) | (simp only [List.length_cons, List.length_nil]; omega)) only [en14, x14_0, x14_1, x14_4, x14_5, x14_6, x14_9, x14_10, x14_13, x14_14, x14_15, x14_16, x14_17, x14_18, x14_21, x14_23, x14_26, x14_27, x14_30, x14_31, x14_32, x14_33, x14_36, x14_37, x14_37i, x14_38, x14_41, x14_42, x14_43, x14_46, x14_47, x14_49, x14_52, x14_53, x14_56, x14_59, x14_60, x14_61, x14_64, x14_65, x14_68, x14_69, x14_70, x14_71, x14_74, x14_75, x14_78, x14_79, x14_82, x14_83, x14_86, x14_87, x14_88, x14_89, x14_92, x14_93, x14_96, x14_97, x14_98, x14_99, x14_102, x14_103, x14_106, x14_107, x14_108, x14_109, x14_112, x14_113, x14_116, x14_117, x14_118, x14_121, x14_122, x14_125, x14_126, x14_129, x14_130, x14_133, x14_134, x14_137, x14_138, x14_139, x14_140, x14_141, x14_144, x14_145, x14_146, x14_149, x14_150, x14_153, x14_154, x14_155, x14_156, x14_159, x14_160, x14_161, x14_161i, x14_162, x14_165, x14_166, x14_167, x14_170, fcn_0_10, fcn_0_12, fcn_0_13, fcn_0_14, fcn_0_15, fcn_0_8, if_true, if_false, eq_self, Int.reduceEq, Int.reduceLT, Int.reduceLE, Int.reduceAdd, Int.reduceSub, Int.reduceMul, Int.reduceToNat, Nat.reduceAdd, Nat.reduceMul, Nat.reduceEqDiff, Int.toNat_natCast, wrap_id, h1, h2, mu_mu, h3, zcI_r, zcV_r, mu_s, mu_c, mu_i, hop, e1, hot, h126, hb, hc, hf, if_neg hf0]
          rfl
      · rw [pTk_no h58, bd_er]
        have h3 := t_exp_no (d := d) (by omega) _ b2 (by rw [b4, hb]) (j := p1 + 1) (b3.trans (by omega)) (by rw [b1]; omega) (c := 58) (by decide) (by rw [b1]; exact h58)
        rw [b1, mu_mu] at h3
        refine ⟨mu (mu (mu s 0 2 ((sk (tx s) (p1 + 1) : Nat) : Int)) 0 3 ((sk (tx s) (p1 + 1) : Nat) : Int)) 0 5 1, ?_, mu_s, by rw [mu_i (by decide), mu_s], (((Fr.rf s).mu (by unfold TW; omega)).mu (by unfold TW; omega)).mu (by unfold TW; omega)⟩
        simp (disch := first | exact obC_0 | omega | (simp only [aN1_10, aN1_11, aN1_4, aN1_6, aN1_8, aN1_9]; omega) | (simp only [List.length_cons, List.length_nil]; omega)) only [en14, x14_0, x14_1, x14_4, x14_5, x14_6, x14_9, x14_10, x14_13, x14_14, x14_15, x14_16, x14_17, x14_18, x14_21, x14_23, x14_26, x14_27, x14_30, x14_31, x14_32, x14_33, x14_36, x14_37, x14_37i, x14_38, x14_41, x14_42, x14_43, x14_46, x14_47, x14_49, x14_52, x14_53, x14_56, x14_59, x14_60, x14_61, x14_64, x14_65, x14_68, x14_69, x14_70, x14_71, x14_74, x14_75, x14_78, x14_79, x14_82, x14_83, x14_86, x14_87, x14_88, x14_89, x14_92, x14_93, x14_96, x14_97, x14_98, x14_99, x14_102, x14_103, x14_106, x14_107, x14_108, x14_109, x14_112, x14_113, x14_116, x14_117, x14_118, x14_121, x14_122, x14_125, x14_126, x14_129, x14_130, x14_133, x14_134, x14_137, x14_138, x14_139, x14_140, x14_141, x14_144, x14_145, x14_146, x14_149, x14_150, x14_153, x14_154, x14_155, x14_156, x14_159, x14_160, x14_161, x14_161i, x14_162, x14_165, x14_166, x14_167, x14_170, fcn_0_10, fcn_0_12, fcn_0_13, fcn_0_14, fcn_0_15, fcn_0_8, if_true, if_false, eq_self, Int.reduceEq, Int.reduceLT, Int.reduceLE, Int.reduceAdd, Int.reduceSub, Int.reduceMul, Int.reduceToNat, Nat.reduceAdd, Nat.reduceMul, Nat.reduceEqDiff, Int.toNat_natCast, wrap_id, h1, h2, mu_mu, h3, zcI_r, zcV_r, mu_s, mu_c, mu_i, hop, e1, hot, h126, hb]
    · rw [if_neg h126, if_neg h126]
      obtain ⟨b1, b2, b3, b4⟩ := at_st ho (p1 : Int)
      by_cases h58 : cA (tx s) p1 = 58
      · rw [pTk_ok h58, bd_ok]
        have hp1l' : p1 < (tx s).2 := cA_in (by omega)
        have h3 := t_exp_ok (d := d) (by omega) _ b2 (j := p1) b3 (by rw [b1]; omega) (c := 58) (by decide) (by rw [b1, hp1s]; exact h58)
        rw [b1, mu_mu, hp1s] at h3
        refine ⟨p1 + 1, ?_, rfl, by omega, by omega, hn26, Nat.zero_le _⟩
        unfold fld
        rw [show ((p1 + 1 : Nat) : Int) = (p1 : Int) + 1 by omega]
        by_cases hf0 : f < 0
        · rw [if_pos hf0]
          simp (disch := first | exact obC_0 | omega | (simp only [aN1_10, aN1_11, aN1_4, aN1_6, aN1_8, aN1_9]; omega) | (simp only [List.length_cons, List.length_nil]; omega)) only [en14, x14_0, x14_1, x14_4, x14_5, x14_6, x14_9, x14_10, x14_13, x14_14, x14_15, x14_16, x14_17, x14_18, x14_21, x14_23, x14_26, x14_27, x14_30, x14_31, x14_32, x14_33, x14_36, x14_37, x14_37i, x14_38, x14_41, x14_42, x14_43, x14_46, x14_47, x14_49, x14_52, x14_53, x14_56, x14_59, x14_60, x14_61, x14_64, x14_65, x14_68, x14_69, x14_70, x14_71, x14_74, x14_75, x14_78, x14_79, x14_82, x14_83, x14_86, x14_87, x14_88, x14_89, x14_92, x14_93, x14_96, x14_97, x14_98, x14_99, x14_102, x14_103, x14_106, x14_107, x14_108, x14_109, x14_112, x14_113, x14_116, x14_117, x14_118, x14_121, x14_122, x14_125, x14_126, x14_129, x14_130, x14_133, x14_134, x14_137, x14_138, x14_139, x14_140, x14_141, x14_144, x14_145, x14_146, x14_149, x14_150, x14_153, x14_154, x14_155, x14_156, x14_159, x14_160, x14_161, x14_161i, x14_162, x14_165, x14_166, x14_167, x14_170, fcn_0_10, fcn_0_12, fcn_0_13, fcn_0_14, fcn_0_15, fcn_0_8, if_true, if_false, eq_self, Int.reduceEq, Int.reduceLT, Int.reduceLE, Int.reduceAdd, Int.reduceSub, Int.reduceMul, Int.reduceToNat, Nat.reduceAdd, Nat.reduceMul, Nat.reduceEqDiff, Int.toNat_natCast, wrap_id, h1, h2, h3, zcI_r, zcV_r, mu_s, mu_c, mu_i, hop, e1, hot, if_neg h126, hb, hc, hf, if_pos hf0]
          rfl
        · rw [if_neg hf0]
          simp (disch := first | exact obC_0 | omega | (simp only [aN1_10, aN1_11, aN1_4, aN1_6, aN1_8, aN1_9]; omega) | (simp only [List.length_cons, List.length_nil]; omega)) only [en14, x14_0, x14_1, x14_4, x14_5, x14_6, x14_9, x14_10, x14_13, x14_14, x14_15, x14_16, x14_17, x14_18, x14_21, x14_23, x14_26, x14_27, x14_30, x14_31, x14_32, x14_33, x14_36, x14_37, x14_37i, x14_38, x14_41, x14_42, x14_43, x14_46, x14_47, x14_49, x14_52, x14_53, x14_56, x14_59, x14_60, x14_61, x14_64, x14_65, x14_68, x14_69, x14_70, x14_71, x14_74, x14_75, x14_78, x14_79, x14_82, x14_83, x14_86, x14_87, x14_88, x14_89, x14_92, x14_93, x14_96, x14_97, x14_98, x14_99, x14_102, x14_103, x14_106, x14_107, x14_108, x14_109, x14_112, x14_113, x14_116, x14_117, x14_118, x14_121, x14_122, x14_125, x14_126, x14_129, x14_130, x14_133, x14_134, x14_137, x14_138, x14_139, x14_140, x14_141, x14_144, x14_145, x14_146, x14_149, x14_150, x14_153, x14_154, x14_155, x14_156, x14_159, x14_160, x14_161, x14_161i, x14_162, x14_165, x14_166, x14_167, x14_170, fcn_0_10, fcn_0_12, fcn_0_13, fcn_0_14, fcn_0_15, fcn_0_8, if_true, if_false, eq_self, Int.reduceEq, Int.reduceLT, Int.reduceLE, Int.reduceAdd, Int.reduceSub, Int.reduceMul, Int.reduceToNat, Nat.reduceAdd, Nat.reduceMul, Nat.reduceEqDiff, Int.toNat_natCast, wrap_id, h1, h2, h3, zcI_r, zcV_r, mu_s, mu_c, mu_i, hop, e1, hot, if_neg h126, hb, hc, hf, if_neg hf0]
          rfl
      · rw [pTk_no h58, bd_er]
        have h3 := t_exp_no (d := d) (by omega) _ b2 (by rw [b4, hb]) (j := p1) b3 (by rw [b1]; omega) (c := 58) (by decide) (by rw [b1, hp1s]; exact h58)
        rw [b1, mu_mu, hp1s] at h3
        refine ⟨mu (mu (mu s 0 2 (p1 : Int)) 0 3 (p1 : Int)) 0 5 1, ?_, mu_s, by rw [mu_i (by decide), mu_s], (((Fr.rf s).mu (by unfold TW; omega)).mu (by unfold TW; omega)).mu (by unfold TW; omega)⟩
        simp (disch := first | exact obC_0 | omega | (simp only [aN1_10, aN1_11, aN1_4, aN1_6, aN1_8, aN1_9]; omega) | (simp only [List.length_cons, List.length_nil]; omega)) only [en14, x14_0, x14_1, x14_4, x14_5, x14_6, x14_9, x14_10, x14_13, x14_14, x14_15, x14_16, x14_17, x14_18, x14_21, x14_23, x14_26, x14_27, x14_30, x14_31, x14_32, x14_33, x14_36, x14_37, x14_37i, x14_38, x14_41, x14_42, x14_43, x14_46, x14_47, x14_49, x14_52, x14_53, x14_56, x14_59, x14_60, x14_61, x14_64, x14_65, x14_68, x14_69, x14_70, x14_71, x14_74, x14_75, x14_78, x14_79, x14_82, x14_83, x14_86, x14_87, x14_88, x14_89, x14_92, x14_93, x14_96, x14_97, x14_98, x14_99, x14_102, x14_103, x14_106, x14_107, x14_108, x14_109, x14_112, x14_113, x14_116, x14_117, x14_118, x14_121, x14_122, x14_125, x14_126, x14_129, x14_130, x14_133, x14_134, x14_137, x14_138, x14_139, x14_140, x14_141, x14_144, x14_145, x14_146, x14_149, x14_150, x14_153, x14_154, x14_155, x14_156, x14_159, x14_160, x14_161, x14_161i, x14_162, x14_165, x14_166, x14_167, x14_170, fcn_0_10, fcn_0_12, fcn_0_13, fcn_0_14, fcn_0_15, fcn_0_8, if_true, if_false, eq_self, Int.reduceEq, Int.reduceLT, Int.reduceLE, Int.reduceAdd, Int.reduceSub, Int.reduceMul, Int.reduceToNat, Nat.reduceAdd, Nat.reduceMul, Nat.reduceEqDiff, Int.toNat_natCast, wrap_id, h1, h2, h3, zcI_r, zcV_r, mu_s, mu_c, mu_i, hop, e1, hot, if_neg h126, hb]
  · rw [if_neg hN, wr_0 (by rw [mu_i (by decide), hb])] at h1
    rw [if_neg hN, bd_er]
    generalize hs1 : mu (mu (mu s 0 2 (p : Int)) 0 3 (p : Int)) 0 5 1 = s1 at h1
    have f1 : Fr TW s s1 := by rw [← hs1]; exact (((Fr.rf s).mu (by unfold TW; omega)).mu (by unfold TW; omega)).mu (by unfold TW; omega)
    have x1 : tx s1 = tx s := f1.tx (by unfold TW; omega) (by unfold TW; omega)
    have o1 : okT s1 := f1.okT (by unfold TW; omega) (by unfold TW; omega) ho
    have t1 : s1 0 2 = p := by rw [← hs1, mu_i (by decide), mu_i (by decide), mu_s]
    have b1 : s1 0 5 = 1 := by rw [← hs1, mu_s]
    have w1 : s1 0 3 = p := by rw [← hs1, mu_i (by decide), mu_s]
    have op1 : s1 0 18 = ((o + 1 : Nat) : Int) := by rw [f1 _ _ (by unfold TW; omega), hop]
    have ot1 : s1 10 o = t := by rw [f1 _ _ (by unfold TW; omega), hot]
    have hsk : sk (tx s) p = p := by rw [← hp, sk_sk]
    have h2 := t_here (d := d) (by omega) s1 o1 t1 (by rw [x1]; exact hpl)
    rw [x1, hsk, mu_eq t1] at h2
    have hn : ∃ nn : Int, cA (tx s) p - 97 = nn := ⟨_, rfl⟩
    obtain ⟨nn, hn⟩ := hn
    rw [hn] at h1
    by_cases h126 : cA (tx s) p = 126
    · have hpl' : p < (tx s).2 := cA_in (by omega)
      obtain ⟨c1, c2, c3, c4⟩ := at_st o1 ((p : Int) + 1)
      obtain ⟨a, ha, h3⟩ := t_exp_bad (d := d) (by omega) _ c2 (by rw [c4, b1]) (j := p + 1) (c3.trans (by omega)) (by rw [c1, x1]; omega) (c := 58) (by decide)
      rw [mu_mu] at h3
      refine ⟨mu s1 0 2 (a : Int), ?_, by rw [mu_i (by decide), b1], by rw [mu_i (by decide), w1], f1.mu (by unfold TW; omega)⟩
      simp (disch := first | exact obC_0 | omega | (simp only [aN1_10, aN1_11, aN1_4, aN1_6, aN1_8, aN1_9]; omega) | (simp only [List.length_cons, List.length_nil]; omega)) only [en14, x14_0, x14_1, x14_4, x14_5, x14_6, x14_9, x14_10, x14_13, x14_14, x14_15, x14_16, x14_17, x14_18, x14_21, x14_23, x14_26, x14_27, x14_30, x14_31, x14_32, x14_33, x14_36, x14_37, x14_37i, x14_38, x14_41, x14_42, x14_43, x14_46, x14_47, x14_49, x14_52, x14_53, x14_56, x14_59, x14_60, x14_61, x14_64, x14_65, x14_68, x14_69, x14_70, x14_71, x14_74, x14_75, x14_78, x14_79, x14_82, x14_83, x14_86, x14_87, x14_88, x14_89, x14_92, x14_93, x14_96, x14_97, x14_98, x14_99, x14_102, x14_103, x14_106, x14_107, x14_108, x14_109, x14_112, x14_113, x14_116, x14_117, x14_118, x14_121, x14_122, x14_125, x14_126, x14_129, x14_130, x14_133, x14_134, x14_137, x14_138, x14_139, x14_140, x14_141, x14_144, x14_145, x14_146, x14_149, x14_150, x14_153, x14_154, x14_155, x14_156, x14_159, x14_160, x14_161, x14_161i, x14_162, x14_165, x14_166, x14_167, x14_170, fcn_0_10, fcn_0_12, fcn_0_13, fcn_0_14, fcn_0_15, fcn_0_8, if_true, if_false, eq_self, Int.reduceEq, Int.reduceLT, Int.reduceLE, Int.reduceAdd, Int.reduceSub, Int.reduceMul, Int.reduceToNat, Nat.reduceAdd, Nat.reduceMul, Nat.reduceEqDiff, Int.toNat_natCast, wrap_id, h1, h2, mu_mu, h3, zcI_r, zcV_r, mu_s, mu_c, mu_i, op1, e1, ot1, h126, b1, t1]
    · obtain ⟨a, ha, h3⟩ := t_exp_bad (d := d) (by omega) s1 o1 b1 t1 (by rw [x1]; exact hpl) (c := 58) (by decide)
      refine ⟨mu s1 0 2 (a : Int), ?_, by rw [mu_i (by decide), b1], by rw [mu_i (by decide), w1], f1.mu (by unfold TW; omega)⟩
      simp (disch := first | exact obC_0 | omega | (simp only [aN1_10, aN1_11, aN1_4, aN1_6, aN1_8, aN1_9]; omega) | (simp only [List.length_cons, List.length_nil]; omega)) only [en14, x14_0, x14_1, x14_4, x14_5, x14_6, x14_9, x14_10, x14_13, x14_14, x14_15, x14_16, x14_17, x14_18, x14_21, x14_23, x14_26, x14_27, x14_30, x14_31, x14_32, x14_33, x14_36, x14_37, x14_37i, x14_38, x14_41, x14_42, x14_43, x14_46, x14_47, x14_49, x14_52, x14_53, x14_56, x14_59, x14_60, x14_61, x14_64, x14_65, x14_68, x14_69, x14_70, x14_71, x14_74, x14_75, x14_78, x14_79, x14_82, x14_83, x14_86, x14_87, x14_88, x14_89, x14_92, x14_93, x14_96, x14_97, x14_98, x14_99, x14_102, x14_103, x14_106, x14_107, x14_108, x14_109, x14_112, x14_113, x14_116, x14_117, x14_118, x14_121, x14_122, x14_125, x14_126, x14_129, x14_130, x14_133, x14_134, x14_137, x14_138, x14_139, x14_140, x14_141, x14_144, x14_145, x14_146, x14_149, x14_150, x14_153, x14_154, x14_155, x14_156, x14_159, x14_160, x14_161, x14_161i, x14_162, x14_165, x14_166, x14_167, x14_170, fcn_0_10, fcn_0_12, fcn_0_13, fcn_0_14, fcn_0_15, fcn_0_8, if_true, if_false, eq_self, Int.reduceEq, Int.reduceLT, Int.reduceLE, Int.reduceAdd, Int.reduceSub, Int.reduceMul, Int.reduceToNat, Nat.reduceAdd, Nat.reduceMul, Nat.reduceEqDiff, Int.toNat_natCast, wrap_id, h1, h2, h3, zcI_r, zcV_r, mu_s, mu_c, mu_i, op1, e1, ot1, if_neg h126, b1, t1]
