/-! THE DOCUMENT: types that are the same but for the widths -/
def alk : Jvm.Term → Jvm.Term → Bool
  | .arg _, .arg _ => true
  | .mul (.arg n) t, .mul (.arg m) u => decide (n = m) && alk t u
  | .sum a, .sum b => alk a b
  | .div (.sub (.arg n) (.arg b)) (.rem t r), .div (.sub (.arg n') (.arg b')) (.rem t' r') => decide (n = n' ∧ b = b') && (alk t t' && alk r r')
  | .null, .null => true
  | _, _ => false
/-- pairs of types that are still to be held against each other, the i-th at 2 i and 2 i + 1 -/
def PW (s : Mem) (M C : Nat) : List (Jvm.Term × Jvm.Term) → Prop
  | [] => True
  | (t, u) :: r => RT s 0 M 0 C true t (s 22 (2 * r.length)) ∧ RT s 0 M 0 C true u (s 22 (2 * r.length + 1)) ∧ PW s M C r
def pwA : List (Jvm.Term × Jvm.Term) → Bool
  | [] => true
  | (t, u) :: r => alk t u && pwA r
def pwZ : List (Jvm.Term × Jvm.Term) → Nat
  | [] => 0
  | (t, _) :: r => tsz t + pwZ r
def tnz : Jvm.Term → Nat
  | .mul _ t => 1 + tnz t
  | .sum a => 1 + tnz a
  | .div _ (.rem t r) => 1 + tnz t + tnz r
  | _ => 1
def pwM : List (Jvm.Term × Jvm.Term) → Nat
  | [] => 0
  | (t, _) :: r => tnz t + pwM r
def WO (k _j : Nat) : Prop := k = 22
theorem RT_WO {s s' : Mem} {a b c e : Nat} {y : Bool} {t : Jvm.Term} {n : Int} (h : Fr WO s s') (r : RT s a b c e y t n) : RT s' a b c e y t n := RT_put (fun k j z => h _ _ (by unfold WO; omega)) r
theorem PW_put {s s' : Mem} {M C : Nat} : ∀ (l : List (Jvm.Term × Jvm.Term)), Fr WO s s' → (∀ j, j < 2 * l.length → s' 22 j = s 22 j) → PW s M C l → PW s' M C l
  | [], _, _, _ => trivial
  | (t, u) :: r, hf, hw, h => by
    rw [List.length_cons] at hw
    exact ⟨by rw [hw _ (by omega)]; exact RT_WO hf h.1, by rw [hw _ (by omega)]; exact RT_WO hf h.2.1, PW_put r hf (fun j hj => hw j (by omega)) h.2.2⟩
def AW (d M C m : Nat) (a0 a1 : Int) : Prop := ∀ (l : List (Jvm.Term × Jvm.Term)) (s : Mem) (l5 l6 l7 l8 : AV), pwM l < m → pwZ l ≤ 24 → PW s M C l → l.length ≤ 24 →
  ∃ s', Ze d 34 16 [aR 0, aI a0, aI a1, aR 22, aI l.length, l5, l6, l7, l8] [] s = rI (if pwA l = true then 1 else 0) s' ∧ Fr WO s s'
theorem aw_fields {d M C m : Nat} {a0 a1 : Int} (hM : M ≤ 200) (hC : C ≤ 100) (hA : AW d M C m a0 a1) : ∀ (fs gs : Jvm.Term) (l : List (Jvm.Term × Jvm.Term)) (s : Mem) (f g x y : Int), pwM l + tnz fs < m → pwZ l + tsz fs ≤ 24 → PW s M C l → l.length + tsz fs ≤ 24 → RT s 0 M 0 C false fs f → RT s 0 M 0 C false gs g →
    ∃ s', Ze d 34 163 [aR 0, aI a0, aI a1, aR 22, aI l.length, aI x, aI y, aI f, aI g] [] s = rI (if (alk fs gs && pwA l) = true then 1 else 0) s' ∧ Fr WO s s' := by
  intro fs gs
  fun_induction alk fs gs with
  | case1 => 
    intro l s f g x y hm hz hP hl h1
    obtain ⟨h0, -⟩ | ⟨_, _, _, _, e, -⟩ := RT_inf h1
    · exact (nomatch h0)
    · exact (nomatch e)
  | case2 => 
    intro l s f g x y hm hz hP hl h1
    obtain ⟨h0, -⟩ | ⟨_, _, _, _, e, -⟩ := RT_inf h1
    · exact (nomatch h0)
    · exact (nomatch e)
  | case3 => 
    intro l s f g x y hm hz hP hl h1
    obtain ⟨h0, -⟩ | ⟨_, _, _, _, e, -⟩ := RT_inf h1
    · exact (nomatch h0)
    · exact (nomatch e)
  | case4 n b t r n' b' t' r' ih1 ih2 =>
    intro l s f g x y hm hz hP hl h1 h2
    obtain ⟨h0, -⟩ | ⟨_, _, _, _, e, f1, f2, f3, f4, f5, f6, f7⟩ := RT_inf h1
    · exact (nomatch h0)
    cases e
    obtain ⟨h0, -⟩ | ⟨_, _, _, _, e, g1, g2, g3, g4, g5, g6, g7⟩ := RT_inf h2
    · exact (nomatch h0)
    cases e
    obtain ⟨fn, rfl⟩ : ∃ fn : Nat, f = fn := ⟨f.toNat, by omega⟩
    obtain ⟨gn, rfl⟩ : ∃ gn : Nat, g = gn := ⟨g.toNat, by omega⟩
    rw [Int.toNat_natCast] at f3 f4 f6 f7 g3 g4 g6 g7
    obtain ⟨r1, r2, r3, r4⟩ := RT_size f6
    simp only [tsz] at hz hl
    have hso : tnz (Jvm.Term.div (.sub (.arg n) (.arg b)) (.rem t r)) = 1 + tnz t + tnz r := rfl
    by_cases hnb : n = n' ∧ b = b'
    · obtain ⟨rfl, rfl⟩ := hnb
      have e1 : (2 * (l.length : Int)).toNat = 2 * l.length := by omega
      have e2 : (2 * (l.length : Int) + 1).toNat = 2 * l.length + 1 := by omega
      generalize hs1 : mu (mu s 22 (2 * l.length) (s 7 fn)) 22 (2 * l.length + 1) (s 7 gn) = s1
      have k1 : ∀ {k j : Nat}, k ≠ 22 → s1 k j = s k j := fun h => by rw [← hs1, mu_c h, mu_c h]
      have F1 : Fr WO s s1 := by rw [← hs1]; exact Fr.mu (S := WO) (Fr.mu (S := WO) (Fr.rf s) rfl) rfl
      have fn1 : s1 8 fn = s 8 fn := k1 (by decide)
      have gn1 : s1 8 gn = s 8 gn := k1 (by decide)
      have hz1 : Ze d 34 163 [aR 0, aI a0, aI a1, aR 22, aI l.length, aI x, aI y, aI fn, aI gn] [] s = Ze d 34 163 [aR 0, aI a0, aI a1, aR 22, aI ((((t, t') :: l).length : Nat) : Int), aI x, aI y, aI (s 8 fn), aI (s 8 gn)] [] s1 := by
        rw [List.length_cons, show ((l.length + 1 : Nat) : Int) = (l.length : Int) + 1 by omega]
        rw [x34_163]
        simp (disch := first | exact obC_0 | omega | (simp only [aN1_2, aN1_22, aN1_3, aN1_4, aN1_6, aN1_7, aN1_8, aN1_9]; omega) | (simp only [List.length_cons, List.length_nil]; omega)) only [en34, x34_0, x34_1, x34_4, x34_5, x34_6, x34_8, x34_9, x34_10, x34_11, x34_12, x34_13, x34_14, x34_15, x34_18, x34_21, x34_24, x34_25, x34_26, x34_28, x34_29, x34_30, x34_32, x34_33, x34_34, x34_36, x34_37, x34_38, x34_39, x34_40, x34_42, x34_43, x34_46, x34_48, x34_49, x34_50, x34_53, x34_55, x34_56, x34_59, x34_60, x34_63, x34_65, x34_66, x34_67, x34_70, x34_71, x34_74, x34_76, x34_77, x34_78, x34_81, x34_83, x34_84, x34_87, x34_88, x34_89, x34_90, x34_93, x34_95, x34_96, x34_97, x34_100, x34_101, x34_102, x34_104, x34_105, x34_106, x34_109, x34_111, x34_112, x34_113, x34_114, x34_115, x34_117, x34_118, x34_119, x34_120, x34_121, x34_124, x34_126, x34_127, x34_128, x34_131, x34_132, x34_135, x34_137, x34_138, x34_139, x34_142, x34_145, x34_146, x34_149, x34_151, x34_152, x34_154, x34_155, x34_158, x34_160, x34_161, x34_165, x34_168, x34_170, x34_173, x34_174, x34_177, x34_179, x34_180, x34_181, x34_184, x34_186, x34_187, x34_190, x34_191, x34_194, x34_196, x34_197, x34_198, x34_201, x34_203, x34_204, x34_207, x34_208, x34_209, x34_210, x34_211, x34_213, x34_214, x34_215, x34_218, x34_220, x34_221, x34_222, x34_223, x34_224, x34_226, x34_227, x34_228, x34_229, x34_230, x34_233, x34_235, x34_236, x34_237, x34_240, x34_241, x34_244, x34_246, x34_247, x34_249, x34_250, x34_253, x34_255, x34_256, x34_258, x34_261, x34_263, x34_266, x34_268, x34_271, x34_272, x34_273, x34_276, x34_277, fcn_0_10, fcn_0_11, fcn_0_12, fcn_0_13, fcn_0_29, fcn_0_6, fcn_0_7, fcn_0_8, if_true, if_false, eq_self, Int.reduceEq, Int.reduceLT, Int.reduceLE, Int.reduceAdd, Int.reduceSub, Int.reduceMul, Int.reduceToNat, Nat.reduceAdd, Nat.reduceMul, Nat.reduceEqDiff, Int.toNat_natCast, wrap_id, f3, f4, g3, g4, mu_c, e1, e2, hs1, fn1, gn1, if_neg (show ¬ (fn : Int) < 0 by omega), if_neg (show ¬ (gn : Int) < 0 by omega)]
      have hp : PW s1 M C ((t, t') :: l) := by
        refine ⟨?_, ?_, PW_put l F1 (fun j hj => ?_) hP⟩
        · rw [show s1 22 (2 * l.length) = s 7 fn by rw [← hs1, mu_i (by omega), mu_s]]
          exact RT_WO F1 f6
        · rw [show s1 22 (2 * l.length + 1) = s 7 gn by rw [← hs1, mu_s]]
          exact RT_WO F1 g6
        · rw [← hs1, mu_i (by omega), mu_i (by omega)]
      obtain ⟨s', q1, q2⟩ := ih2 ((t, t') :: l) s1 (s 8 fn) (s 8 gn) x y (by simp only [pwM]; omega) (by simp only [pwZ]; omega) hp (by rw [List.length_cons]; omega) (RT_WO F1 f7) (RT_WO F1 g7)
      refine ⟨s', (hz1.trans q1).trans ?_, F1.tr q2⟩
      congr 2
      simp only [pwA, and_self, decide_true, Bool.true_and]
      rw [Bool.and_left_comm, Bool.and_assoc]
    · refine ⟨s, ?_, Fr.rf s⟩
      have : (decide (n = n' ∧ b = b') && (alk t t' && alk r r') && pwA l) = false := by rw [decide_eq_false hnb]; rfl
      rw [this, if_neg (show ¬ false = true by decide)]
      rw [x34_163]
      by_cases hn : n = n'
      · have hb : ¬ (b : Int) = b' := fun z => hnb ⟨hn, by omega⟩
        subst hn
        simp (disch := first | exact obC_0 | omega | (simp only [aN1_2, aN1_22, aN1_3, aN1_4, aN1_6, aN1_7, aN1_8, aN1_9]; omega) | (simp only [List.length_cons, List.length_nil]; omega)) only [en34, x34_0, x34_1, x34_4, x34_5, x34_6, x34_8, x34_9, x34_10, x34_11, x34_12, x34_13, x34_14, x34_15, x34_18, x34_21, x34_24, x34_25, x34_26, x34_28, x34_29, x34_30, x34_32, x34_33, x34_34, x34_36, x34_37, x34_38, x34_39, x34_40, x34_42, x34_43, x34_46, x34_48, x34_49, x34_50, x34_53, x34_55, x34_56, x34_59, x34_60, x34_63, x34_65, x34_66, x34_67, x34_70, x34_71, x34_74, x34_76, x34_77, x34_78, x34_81, x34_83, x34_84, x34_87, x34_88, x34_89, x34_90, x34_93, x34_95, x34_96, x34_97, x34_100, x34_101, x34_102, x34_104, x34_105, x34_106, x34_109, x34_111, x34_112, x34_113, x34_114, x34_115, x34_117, x34_118, x34_119, x34_120, x34_121, x34_124, x34_126, x34_127, x34_128, x34_131, x34_132, x34_135, x34_137, x34_138, x34_139, x34_142, x34_145, x34_146, x34_149, x34_151, x34_152, x34_154, x34_155, x34_158, x34_160, x34_161, x34_165, x34_168, x34_170, x34_173, x34_174, x34_177, x34_179, x34_180, x34_181, x34_184, x34_186, x34_187, x34_190, x34_191, x34_194, x34_196, x34_197, x34_198, x34_201, x34_203, x34_204, x34_207, x34_208, x34_209, x34_210, x34_211, x34_213, x34_214, x34_215, x34_218, x34_220, x34_221, x34_222, x34_223, x34_224, x34_226, x34_227, x34_228, x34_229, x34_230, x34_233, x34_235, x34_236, x34_237, x34_240, x34_241, x34_244, x34_246, x34_247, x34_249, x34_250, x34_253, x34_255, x34_256, x34_258, x34_261, x34_263, x34_266, x34_268, x34_271, x34_272, x34_273, x34_276, x34_277, fcn_0_10, fcn_0_11, fcn_0_12, fcn_0_13, fcn_0_29, fcn_0_6, fcn_0_7, fcn_0_8, if_true, if_false, eq_self, Int.reduceEq, Int.reduceLT, Int.reduceLE, Int.reduceAdd, Int.reduceSub, Int.reduceMul, Int.reduceToNat, Nat.reduceAdd, Nat.reduceMul, Nat.reduceEqDiff, Int.toNat_natCast, wrap_id, f3, f4, g3, g4, if_neg hb, if_neg (show ¬ (fn : Int) < 0 by omega), if_neg (show ¬ (gn : Int) < 0 by omega)]
      · simp (disch := first | exact obC_0 | omega | (simp only [aN1_2, aN1_22, aN1_3, aN1_4, aN1_6, aN1_7, aN1_8, aN1_9]; omega) | (simp only [List.length_cons, List.length_nil]; omega)) only [en34, x34_0, x34_1, x34_4, x34_5, x34_6, x34_8, x34_9, x34_10, x34_11, x34_12, x34_13, x34_14, x34_15, x34_18, x34_21, x34_24, x34_25, x34_26, x34_28, x34_29, x34_30, x34_32, x34_33, x34_34, x34_36, x34_37, x34_38, x34_39, x34_40, x34_42, x34_43, x34_46, x34_48, x34_49, x34_50, x34_53, x34_55, x34_56, x34_59, x34_60, x34_63, x34_65, x34_66, x34_67, x34_70, x34_71, x34_74, x34_76, x34_77, x34_78, x34_81, x34_83, x34_84, x34_87, x34_88, x34_89, x34_90, x34_93, x34_95, x34_96, x34_97, x34_100, x34_101, x34_102, x34_104, x34_105, x34_106, x34_109, x34_111, x34_112, x34_113, x34_114, x34_115, x34_117, x34_118, x34_119, x34_120, x34_121, x34_124, x34_126, x34_127, x34_128, x34_131, x34_132, x34_135, x34_137, x34_138, x34_139, x34_142, x34_145, x34_146, x34_149, x34_151, x34_152, x34_154, x34_155, x34_158, x34_160, x34_161, x34_165, x34_168, x34_170, x34_173, x34_174, x34_177, x34_179, x34_180, x34_181, x34_184, x34_186, x34_187, x34_190, x34_191, x34_194, x34_196, x34_197, x34_198, x34_201, x34_203, x34_204, x34_207, x34_208, x34_209, x34_210, x34_211, x34_213, x34_214, x34_215, x34_218, x34_220, x34_221, x34_222, x34_223, x34_224, x34_226, x34_227, x34_228, x34_229, x34_230, x34_233, x34_235, x34_236, x34_237, x34_240, x34_241, x34_244, x34_246, x34_247, x34_249, x34_250, x34_253, x34_255, x34_256, x34_258, x34_261, x34_263, x34_266, x34_268, x34_271, x34_272, x34_273, x34_276, x34_277, fcn_0_10, fcn_0_11, fcn_0_12, fcn_0_13, fcn_0_29, fcn_0_6, fcn_0_7, fcn_0_8, if_true, if_false, eq_self, Int.reduceEq, Int.reduceLT, Int.reduceLE, Int.reduceAdd, Int.reduceSub, Int.reduceMul, Int.reduceToNat, Nat.reduceAdd, Nat.reduceMul, Nat.reduceEqDiff, Int.toNat_natCast, wrap_id, f3, f4, g3, g4, if_neg (show ¬ (n : Int) = n' by omega), if_neg (show ¬ (fn : Int) < 0 by omega), if_neg (show ¬ (gn : Int) < 0 by omega)]
  | case5 =>
    intro l s f g x y hm hz hP hl h1 h2
    obtain ⟨-, rfl⟩ | ⟨_, _, _, _, e, -⟩ := RT_inf h1
    · obtain ⟨-, rfl⟩ | ⟨_, _, _, _, e, -⟩ := RT_inf h2
      · obtain ⟨s', q1, q2⟩ := hA l s (aI x) (aI y) (aI (-1)) (aI (-1)) (by omega) (by omega) hP (by omega)
        refine ⟨s', Eq.trans ?_ (q1.trans ?_), q2⟩
        · rw [x34_163]
          simp (disch := first | exact obC_0 | omega | (simp only [aN1_2, aN1_22, aN1_3, aN1_4, aN1_6, aN1_7, aN1_8, aN1_9]; omega) | (simp only [List.length_cons, List.length_nil]; omega)) only [en34, x34_0, x34_1, x34_4, x34_5, x34_6, x34_8, x34_9, x34_10, x34_11, x34_12, x34_13, x34_14, x34_15, x34_18, x34_21, x34_24, x34_25, x34_26, x34_28, x34_29, x34_30, x34_32, x34_33, x34_34, x34_36, x34_37, x34_38, x34_39, x34_40, x34_42, x34_43, x34_46, x34_48, x34_49, x34_50, x34_53, x34_55, x34_56, x34_59, x34_60, x34_63, x34_65, x34_66, x34_67, x34_70, x34_71, x34_74, x34_76, x34_77, x34_78, x34_81, x34_83, x34_84, x34_87, x34_88, x34_89, x34_90, x34_93, x34_95, x34_96, x34_97, x34_100, x34_101, x34_102, x34_104, x34_105, x34_106, x34_109, x34_111, x34_112, x34_113, x34_114, x34_115, x34_117, x34_118, x34_119, x34_120, x34_121, x34_124, x34_126, x34_127, x34_128, x34_131, x34_132, x34_135, x34_137, x34_138, x34_139, x34_142, x34_145, x34_146, x34_149, x34_151, x34_152, x34_154, x34_155, x34_158, x34_160, x34_161, x34_165, x34_168, x34_170, x34_173, x34_174, x34_177, x34_179, x34_180, x34_181, x34_184, x34_186, x34_187, x34_190, x34_191, x34_194, x34_196, x34_197, x34_198, x34_201, x34_203, x34_204, x34_207, x34_208, x34_209, x34_210, x34_211, x34_213, x34_214, x34_215, x34_218, x34_220, x34_221, x34_222, x34_223, x34_224, x34_226, x34_227, x34_228, x34_229, x34_230, x34_233, x34_235, x34_236, x34_237, x34_240, x34_241, x34_244, x34_246, x34_247, x34_249, x34_250, x34_253, x34_255, x34_256, x34_258, x34_261, x34_263, x34_266, x34_268, x34_271, x34_272, x34_273, x34_276, x34_277, fcn_0_10, fcn_0_11, fcn_0_12, fcn_0_13, fcn_0_29, fcn_0_6, fcn_0_7, fcn_0_8, if_true, if_false, eq_self, Int.reduceEq, Int.reduceLT, Int.reduceLE, Int.reduceAdd, Int.reduceSub, Int.reduceMul, Int.reduceToNat, Nat.reduceAdd, Nat.reduceMul, Nat.reduceEqDiff, Int.toNat_natCast, wrap_id]
        · rw [Bool.true_and]
      · exact (nomatch e)
    · exact (nomatch e)
  | case6 fs gs c1 c2 c3 c4 c5 =>
    intro l s f g x y hm hz hP hl h1 h2
    refine ⟨s, ?_, Fr.rf s⟩
    rw [Bool.false_and, if_neg (show ¬ false = true by decide)]
    rw [x34_163]
    obtain ⟨rfl, rfl⟩ | ⟨_, _, _, _, rfl, f1, f2, -⟩ := RT_inf h1
    · obtain ⟨rfl, rfl⟩ | ⟨_, _, _, _, rfl, g1, g2, -⟩ := RT_inf h2
      · exact absurd rfl (c5 rfl)
      · simp (disch := first | exact obC_0 | omega | (simp only [aN1_2, aN1_22, aN1_3, aN1_4, aN1_6, aN1_7, aN1_8, aN1_9]; omega) | (simp only [List.length_cons, List.length_nil]; omega)) only [en34, x34_0, x34_1, x34_4, x34_5, x34_6, x34_8, x34_9, x34_10, x34_11, x34_12, x34_13, x34_14, x34_15, x34_18, x34_21, x34_24, x34_25, x34_26, x34_28, x34_29, x34_30, x34_32, x34_33, x34_34, x34_36, x34_37, x34_38, x34_39, x34_40, x34_42, x34_43, x34_46, x34_48, x34_49, x34_50, x34_53, x34_55, x34_56, x34_59, x34_60, x34_63, x34_65, x34_66, x34_67, x34_70, x34_71, x34_74, x34_76, x34_77, x34_78, x34_81, x34_83, x34_84, x34_87, x34_88, x34_89, x34_90, x34_93, x34_95, x34_96, x34_97, x34_100, x34_101, x34_102, x34_104, x34_105, x34_106, x34_109, x34_111, x34_112, x34_113, x34_114, x34_115, x34_117, x34_118, x34_119, x34_120, x34_121, x34_124, x34_126, x34_127, x34_128, x34_131, x34_132, x34_135, x34_137, x34_138, x34_139, x34_142, x34_145, x34_146, x34_149, x34_151, x34_152, x34_154, x34_155, x34_158, x34_160, x34_161, x34_165, x34_168, x34_170, x34_173, x34_174, x34_177, x34_179, x34_180, x34_181, x34_184, x34_186, x34_187, x34_190, x34_191, x34_194, x34_196, x34_197, x34_198, x34_201, x34_203, x34_204, x34_207, x34_208, x34_209, x34_210, x34_211, x34_213, x34_214, x34_215, x34_218, x34_220, x34_221, x34_222, x34_223, x34_224, x34_226, x34_227, x34_228, x34_229, x34_230, x34_233, x34_235, x34_236, x34_237, x34_240, x34_241, x34_244, x34_246, x34_247, x34_249, x34_250, x34_253, x34_255, x34_256, x34_258, x34_261, x34_263, x34_266, x34_268, x34_271, x34_272, x34_273, x34_276, x34_277, fcn_0_10, fcn_0_11, fcn_0_12, fcn_0_13, fcn_0_29, fcn_0_6, fcn_0_7, fcn_0_8, if_true, if_false, eq_self, Int.reduceEq, Int.reduceLT, Int.reduceLE, Int.reduceAdd, Int.reduceSub, Int.reduceMul, Int.reduceToNat, Nat.reduceAdd, Nat.reduceMul, Nat.reduceEqDiff, Int.toNat_natCast, wrap_id, if_neg (show ¬ g < 0 by omega), if_pos (show 0 ≤ g by omega)]
    · obtain ⟨rfl, rfl⟩ | ⟨_, _, _, _, rfl, g1, g2, -⟩ := RT_inf h2
      · simp (disch := first | exact obC_0 | omega | (simp only [aN1_2, aN1_22, aN1_3, aN1_4, aN1_6, aN1_7, aN1_8, aN1_9]; omega) | (simp only [List.length_cons, List.length_nil]; omega)) only [en34, x34_0, x34_1, x34_4, x34_5, x34_6, x34_8, x34_9, x34_10, x34_11, x34_12, x34_13, x34_14, x34_15, x34_18, x34_21, x34_24, x34_25, x34_26, x34_28, x34_29, x34_30, x34_32, x34_33, x34_34, x34_36, x34_37, x34_38, x34_39, x34_40, x34_42, x34_43, x34_46, x34_48, x34_49, x34_50, x34_53, x34_55, x34_56, x34_59, x34_60, x34_63, x34_65, x34_66, x34_67, x34_70, x34_71, x34_74, x34_76, x34_77, x34_78, x34_81, x34_83, x34_84, x34_87, x34_88, x34_89, x34_90, x34_93, x34_95, x34_96, x34_97, x34_100, x34_101, x34_102, x34_104, x34_105, x34_106, x34_109, x34_111, x34_112, x34_113, x34_114, x34_115, x34_117, x34_118, x34_119, x34_120, x34_121, x34_124, x34_126, x34_127, x34_128, x34_131, x34_132, x34_135, x34_137, x34_138, x34_139, x34_142, x34_145, x34_146, x34_149, x34_151, x34_152, x34_154, x34_155, x34_158, x34_160, x34_161, x34_165, x34_168, x34_170, x34_173, x34_174, x34_177, x34_179, x34_180, x34_181, x34_184, x34_186, x34_187, x34_190, x34_191, x34_194, x34_196, x34_197, x34_198, x34_201, x34_203, x34_204, x34_207, x34_208, x34_209, x34_210, x34_211, x34_213, x34_214, x34_215, x34_218, x34_220, x34_221, x34_222, x34_223, x34_224, x34_226, x34_227, x34_228, x34_229, x34_230, x34_233, x34_235, x34_236, x34_237, x34_240, x34_241, x34_244, x34_246, x34_247, x34_249, x34_250, x34_253, x34_255, x34_256, x34_258, x34_261, x34_263, x34_266, x34_268, x34_271, x34_272, x34_273, x34_276, x34_277, fcn_0_10, fcn_0_11, fcn_0_12, fcn_0_13, fcn_0_29, fcn_0_6, fcn_0_7, fcn_0_8, if_true, if_false, eq_self, Int.reduceEq, Int.reduceLT, Int.reduceLE, Int.reduceAdd, Int.reduceSub, Int.reduceMul, Int.reduceToNat, Nat.reduceAdd, Nat.reduceMul, Nat.reduceEqDiff, Int.toNat_natCast, wrap_id, if_neg (show ¬ f < 0 by omega), if_pos (show 0 ≤ f by omega)]
      · exact absurd rfl (c4 _ _ _ _ _ _ _ _ rfl)
