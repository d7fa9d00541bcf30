theorem aw_no {d M C : Nat} {a0 a1 : Int} (t u : Jvm.Term) (r : List (Jvm.Term × Jvm.Term)) (s : Mem) (l5 l6 l7 l8 : AV) (hM : M ≤ 200) (hr : r.length ≤ 23) (hP : PW s M C ((t, u) :: r)) (hk : ¬ s 2 (s 22 (2 * r.length)).toNat = s 2 (s 22 (2 * r.length + 1)).toNat) :
    Ze d 34 16 [aR 0, aI a0, aI a1, aR 22, aI ((r.length : Int) + 1), l5, l6, l7, l8] [] s = rI 0 s := by
  obtain ⟨h1, h2, h3⟩ := hP
  obtain ⟨r1, r2, r3, r4⟩ := RT_size h1
  obtain ⟨q1, q2, q3, q4⟩ := RT_size h2
  have e0 : (r.length : Int) + 1 + -1 = r.length := by omega
  have e1 : (2 * (r.length : Int)).toNat = 2 * r.length := by omega
  have e2 : (2 * (r.length : Int) + 1).toNat = 2 * r.length + 1 := by omega
  obtain ⟨ty, hty⟩ : ∃ a : Nat, s 22 (2 * r.length) = a := ⟨(s 22 (2 * r.length)).toNat, by omega⟩
  obtain ⟨tu, htu⟩ : ∃ a : Nat, s 22 (2 * r.length + 1) = a := ⟨(s 22 (2 * r.length + 1)).toNat, by omega⟩
  rw [hty, htu, Int.toNat_natCast, Int.toNat_natCast] at hk
  rw [hty] at r2
  rw [htu] at q2
  rw [x34_16]
  simp (disch := first | exact obC_0 | omega | (simp only [aN1_2, aN1_22, aN1_3, aN1_4, aN1_6, aN1_7, aN1_8, aN1_9]; omega) | (simp only [List.length_cons, List.length_nil]; omega)) only [en34, x34_0, x34_1, x34_4, x34_5, x34_6, x34_8, x34_9, x34_10, x34_11, x34_12, x34_13, x34_14, x34_15, x34_18, x34_21, x34_24, x34_25, x34_26, x34_28, x34_29, x34_30, x34_32, x34_33, x34_34, x34_36, x34_37, x34_38, x34_39, x34_40, x34_42, x34_43, x34_46, x34_48, x34_49, x34_50, x34_53, x34_55, x34_56, x34_59, x34_60, x34_63, x34_65, x34_66, x34_67, x34_70, x34_71, x34_74, x34_76, x34_77, x34_78, x34_81, x34_83, x34_84, x34_87, x34_88, x34_89, x34_90, x34_93, x34_95, x34_96, x34_97, x34_100, x34_101, x34_102, x34_104, x34_105, x34_106, x34_109, x34_111, x34_112, x34_113, x34_114, x34_115, x34_117, x34_118, x34_119, x34_120, x34_121, x34_124, x34_126, x34_127, x34_128, x34_131, x34_132, x34_135, x34_137, x34_138, x34_139, x34_142, x34_145, x34_146, x34_149, x34_151, x34_152, x34_154, x34_155, x34_158, x34_160, x34_161, x34_165, x34_168, x34_170, x34_173, x34_174, x34_177, x34_179, x34_180, x34_181, x34_184, x34_186, x34_187, x34_190, x34_191, x34_194, x34_196, x34_197, x34_198, x34_201, x34_203, x34_204, x34_207, x34_208, x34_209, x34_210, x34_211, x34_213, x34_214, x34_215, x34_218, x34_220, x34_221, x34_222, x34_223, x34_224, x34_226, x34_227, x34_228, x34_229, x34_230, x34_233, x34_235, x34_236, x34_237, x34_240, x34_241, x34_244, x34_246, x34_247, x34_249, x34_250, x34_253, x34_255, x34_256, x34_258, x34_261, x34_263, x34_266, x34_268, x34_271, x34_272, x34_273, x34_276, x34_277, fcn_0_10, fcn_0_11, fcn_0_12, fcn_0_13, fcn_0_29, fcn_0_6, fcn_0_7, fcn_0_8, if_true, if_false, eq_self, Int.reduceEq, Int.reduceLT, Int.reduceLE, Int.reduceAdd, Int.reduceSub, Int.reduceMul, Int.reduceToNat, Nat.reduceAdd, Nat.reduceMul, Nat.reduceEqDiff, Int.toNat_natCast, wrap_id, e0, e1, e2, hty, htu, if_neg hk, if_pos (show 0 < (r.length : Int) + 1 by omega)]
theorem aw_all {d M C : Nat} (hM : M ≤ 200) (hC : C ≤ 100) (a0 a1 : Int) : ∀ m, AW d M C m a0 a1 := by
  intro m
  induction m with
  | zero => intro l s l5 l6 l7 l8 h; omega
  | succ m ih =>
    intro l s l5 l6 l7 l8 hm hz hP hl
    cases l with
    | nil =>
      refine ⟨s, ?_, Fr.rf s⟩
      have z0 : ((([] : List (Jvm.Term × Jvm.Term)).length : Nat) : Int) = 0 := rfl
      rw [z0, x34_16, if_pos (show pwA [] = true from rfl)]
      simp (disch := first | exact obC_0 | omega | (simp only [aN1_2, aN1_22, aN1_3, aN1_4, aN1_6, aN1_7, aN1_8, aN1_9]; omega) | (simp only [List.length_cons, List.length_nil]; omega)) only [en34, x34_0, x34_1, x34_4, x34_5, x34_6, x34_8, x34_9, x34_10, x34_11, x34_12, x34_13, x34_14, x34_15, x34_18, x34_21, x34_24, x34_25, x34_26, x34_28, x34_29, x34_30, x34_32, x34_33, x34_34, x34_36, x34_37, x34_38, x34_39, x34_40, x34_42, x34_43, x34_46, x34_48, x34_49, x34_50, x34_53, x34_55, x34_56, x34_59, x34_60, x34_63, x34_65, x34_66, x34_67, x34_70, x34_71, x34_74, x34_76, x34_77, x34_78, x34_81, x34_83, x34_84, x34_87, x34_88, x34_89, x34_90, x34_93, x34_95, x34_96, x34_97, x34_100, x34_101, x34_102, x34_104, x34_105, x34_106, x34_109, x34_111, x34_112, x34_113, x34_114, x34_115, x34_117, x34_118, x34_119, x34_120, x34_121, x34_124, x34_126, x34_127, x34_128, x34_131, x34_132, x34_135, x34_137, x34_138, x34_139, x34_142, x34_145, x34_146, x34_149, x34_151, x34_152, x34_154, x34_155, x34_158, x34_160, x34_161, x34_165, x34_168, x34_170, x34_173, x34_174, x34_177, x34_179, x34_180, x34_181, x34_184, x34_186, x34_187, x34_190, x34_191, x34_194, x34_196, x34_197, x34_198, x34_201, x34_203, x34_204, x34_207, x34_208, x34_209, x34_210, x34_211, x34_213, x34_214, x34_215, x34_218, x34_220, x34_221, x34_222, x34_223, x34_224, x34_226, x34_227, x34_228, x34_229, x34_230, x34_233, x34_235, x34_236, x34_237, x34_240, x34_241, x34_244, x34_246, x34_247, x34_249, x34_250, x34_253, x34_255, x34_256, x34_258, x34_261, x34_263, x34_266, x34_268, x34_271, x34_272, x34_273, x34_276, x34_277, fcn_0_10, fcn_0_11, fcn_0_12, fcn_0_13, fcn_0_29, fcn_0_6, fcn_0_7, fcn_0_8, if_true, if_false, eq_self, Int.reduceEq, Int.reduceLT, Int.reduceLE, Int.reduceAdd, Int.reduceSub, Int.reduceMul, Int.reduceToNat, Nat.reduceAdd, Nat.reduceMul, Nat.reduceEqDiff, Int.toNat_natCast, wrap_id]
    | cons p r =>
      obtain ⟨t, u⟩ := p
      have hP' := hP
      rw [List.length_cons] at hl ⊢
      rw [show ((r.length + 1 : Nat) : Int) = (r.length : Int) + 1 by omega]
      simp only [pwM] at hm
      simp only [pwZ] at hz
      obtain ⟨h1, h2, h3⟩ := hP
      obtain ⟨r1, r2, r3, r4⟩ := RT_size h1
      obtain ⟨q1, q2, q3, q4⟩ := RT_size h2
      have e0 : (r.length : Int) + 1 + -1 = r.length := by omega
      have e1 : (2 * (r.length : Int)).toNat = 2 * r.length := by omega
      have e2 : (2 * (r.length : Int) + 1).toNat = 2 * r.length + 1 := by omega
      have hno := aw_no (d := d) (a0 := a0) (a1 := a1) t u r s l5 l6 l7 l8 hM (by omega) hP'
      obtain ⟨ty, hty⟩ : ∃ a : Nat, s 22 (2 * r.length) = a := ⟨(s 22 (2 * r.length)).toNat, by omega⟩
      obtain ⟨tu, htu⟩ : ∃ a : Nat, s 22 (2 * r.length + 1) = a := ⟨(s 22 (2 * r.length + 1)).toNat, by omega⟩
      rw [hty] at r2 r3 h1 hno
      rw [htu] at q2 q3 h2 hno
      rw [Int.toNat_natCast, Int.toNat_natCast] at hno
      have no : (alk t u = false) → ¬ s 2 ty = s 2 tu → ∃ s', Ze d 34 16 [aR 0, aI a0, aI a1, aR 22, aI ((r.length : Int) + 1), l5, l6, l7, l8] [] s = rI (if pwA ((t, u) :: r) = true then 1 else 0) s' ∧ Fr WO s s' := by
        intro ha hk
        refine ⟨s, (hno hk).trans ?_, Fr.rf s⟩
        rw [if_neg]
        simp only [pwA, ha, Bool.false_and]
        decide
      obtain ⟨w, rfl, g1, g2, -⟩ | ⟨fs, rfl, g1, g2, g3⟩ | ⟨w, w', rfl, g1, g2, g3, g4⟩ := RT_inv h1
      · rw [Int.toNat_natCast] at g1
        obtain ⟨v, rfl, k1, k2, -⟩ | ⟨gs, rfl, k1, k2, k3⟩ | ⟨v, v', rfl, k1, k2, k3, k4⟩ := RT_inv h2
        all_goals (rw [Int.toNat_natCast] at k1)
        · obtain ⟨s', p1, p2⟩ := ih r s (aI ty) (aI tu) l7 l8 (by simp only [tnz] at hm; omega) (by omega) h3 (by omega)
          refine ⟨s', Eq.trans ?_ (p1.trans ?_), p2⟩
          · rw [x34_16]
            simp (disch := first | exact obC_0 | omega | (simp only [aN1_2, aN1_22, aN1_3, aN1_4, aN1_6, aN1_7, aN1_8, aN1_9]; omega) | (simp only [List.length_cons, List.length_nil]; omega)) only [en34, x34_0, x34_1, x34_4, x34_5, x34_6, x34_8, x34_9, x34_10, x34_11, x34_12, x34_13, x34_14, x34_15, x34_18, x34_21, x34_24, x34_25, x34_26, x34_28, x34_29, x34_30, x34_32, x34_33, x34_34, x34_36, x34_37, x34_38, x34_39, x34_40, x34_42, x34_43, x34_46, x34_48, x34_49, x34_50, x34_53, x34_55, x34_56, x34_59, x34_60, x34_63, x34_65, x34_66, x34_67, x34_70, x34_71, x34_74, x34_76, x34_77, x34_78, x34_81, x34_83, x34_84, x34_87, x34_88, x34_89, x34_90, x34_93, x34_95, x34_96, x34_97, x34_100, x34_101, x34_102, x34_104, x34_105, x34_106, x34_109, x34_111, x34_112, x34_113, x34_114, x34_115, x34_117, x34_118, x34_119, x34_120, x34_121, x34_124, x34_126, x34_127, x34_128, x34_131, x34_132, x34_135, x34_137, x34_138, x34_139, x34_142, x34_145, x34_146, x34_149, x34_151, x34_152, x34_154, x34_155, x34_158, x34_160, x34_161, x34_165, x34_168, x34_170, x34_173, x34_174, x34_177, x34_179, x34_180, x34_181, x34_184, x34_186, x34_187, x34_190, x34_191, x34_194, x34_196, x34_197, x34_198, x34_201, x34_203, x34_204, x34_207, x34_208, x34_209, x34_210, x34_211, x34_213, x34_214, x34_215, x34_218, x34_220, x34_221, x34_222, x34_223, x34_224, x34_226, x34_227, x34_228, x34_229, x34_230, x34_233, x34_235, x34_236, x34_237, x34_240, x34_241, x34_244, x34_246, x34_247, x34_249, x34_250, x34_253, x34_255, x34_256, x34_258, x34_261, x34_263, x34_266, x34_268, x34_271, x34_272, x34_273, x34_276, x34_277, fcn_0_10, fcn_0_11, fcn_0_12, fcn_0_13, fcn_0_29, fcn_0_6, fcn_0_7, fcn_0_8, if_true, if_false, eq_self, Int.reduceEq, Int.reduceLT, Int.reduceLE, Int.reduceAdd, Int.reduceSub, Int.reduceMul, Int.reduceToNat, Nat.reduceAdd, Nat.reduceMul, Nat.reduceEqDiff, Int.toNat_natCast, wrap_id, e0, e1, e2, hty, htu, g1, k1, if_pos (show 0 < (r.length : Int) + 1 by omega)]
          · simp only [pwA, alk, Bool.true_and]
        · exact no rfl (by rw [g1, k1]; decide)
        · exact no rfl (by rw [g1, k1]; decide)
      · rw [Int.toNat_natCast] at g1 g3
        obtain ⟨v, rfl, k1, k2, -⟩ | ⟨gs, rfl, k1, k2, k3⟩ | ⟨v, v', rfl, k1, k2, k3, k4⟩ := RT_inv h2
        all_goals (rw [Int.toNat_natCast] at k1)
        · exact no rfl (by rw [g1, k1]; decide)
        · rw [Int.toNat_natCast] at k3
          simp only [tnz] at hm
          simp only [tsz] at hz
          have hpos := r4
          simp only [tsz] at hpos
          have hl2 : ∀ (l : List (Jvm.Term × Jvm.Term)), PW s M C l → l.length ≤ pwZ l := by
            intro l
            induction l with
            | nil => intro _; exact Nat.le_refl _
            | cons x l ihl =>
              intro z
              have := ihl z.2.2
              obtain ⟨-, -, -, z4⟩ := RT_size z.1
              simp only [pwZ, List.length_cons]
              omega
          have := hl2 r h3
          obtain ⟨s', p1, p2⟩ := aw_fields hM hC ih fs gs r s (s 4 ty) (s 4 tu) ty tu (by omega) (by omega) h3 (by omega) g3 k3
          refine ⟨s', Eq.trans ?_ (p1.trans ?_), p2⟩
          · rw [x34_16]
            simp (disch := first | exact obC_0 | omega | (simp only [aN1_2, aN1_22, aN1_3, aN1_4, aN1_6, aN1_7, aN1_8, aN1_9]; omega) | (simp only [List.length_cons, List.length_nil]; omega)) only [en34, x34_0, x34_1, x34_4, x34_5, x34_6, x34_8, x34_9, x34_10, x34_11, x34_12, x34_13, x34_14, x34_15, x34_18, x34_21, x34_24, x34_25, x34_26, x34_28, x34_29, x34_30, x34_32, x34_33, x34_34, x34_36, x34_37, x34_38, x34_39, x34_40, x34_42, x34_43, x34_46, x34_48, x34_49, x34_50, x34_53, x34_55, x34_56, x34_59, x34_60, x34_63, x34_65, x34_66, x34_67, x34_70, x34_71, x34_74, x34_76, x34_77, x34_78, x34_81, x34_83, x34_84, x34_87, x34_88, x34_89, x34_90, x34_93, x34_95, x34_96, x34_97, x34_100, x34_101, x34_102, x34_104, x34_105, x34_106, x34_109, x34_111, x34_112, x34_113, x34_114, x34_115, x34_117, x34_118, x34_119, x34_120, x34_121, x34_124, x34_126, x34_127, x34_128, x34_131, x34_132, x34_135, x34_137, x34_138, x34_139, x34_142, x34_145, x34_146, x34_149, x34_151, x34_152, x34_154, x34_155, x34_158, x34_160, x34_161, x34_165, x34_168, x34_170, x34_173, x34_174, x34_177, x34_179, x34_180, x34_181, x34_184, x34_186, x34_187, x34_190, x34_191, x34_194, x34_196, x34_197, x34_198, x34_201, x34_203, x34_204, x34_207, x34_208, x34_209, x34_210, x34_211, x34_213, x34_214, x34_215, x34_218, x34_220, x34_221, x34_222, x34_223, x34_224, x34_226, x34_227, x34_228, x34_229, x34_230, x34_233, x34_235, x34_236, x34_237, x34_240, x34_241, x34_244, x34_246, x34_247, x34_249, x34_250, x34_253, x34_255, x34_256, x34_258, x34_261, x34_263, x34_266, x34_268, x34_271, x34_272, x34_273, x34_276, x34_277, fcn_0_10, fcn_0_11, fcn_0_12, fcn_0_13, fcn_0_29, fcn_0_6, fcn_0_7, fcn_0_8, if_true, if_false, eq_self, Int.reduceEq, Int.reduceLT, Int.reduceLE, Int.reduceAdd, Int.reduceSub, Int.reduceMul, Int.reduceToNat, Nat.reduceAdd, Nat.reduceMul, Nat.reduceEqDiff, Int.toNat_natCast, wrap_id, e0, e1, e2, hty, htu, g1, k1, if_pos (show 0 < (r.length : Int) + 1 by omega)]
          · simp only [pwA, alk]
            rfl
        · exact no rfl (by rw [g1, k1]; decide)
      · rw [Int.toNat_natCast] at g1 g2 g4
        obtain ⟨v, rfl, k1, k2, -⟩ | ⟨gs, rfl, k1, k2, k3⟩ | ⟨v, v', rfl, k1, k2, k3, k4⟩ := RT_inv h2
        all_goals (rw [Int.toNat_natCast] at k1)
        · exact no rfl (by rw [g1, k1]; decide)
        · exact no rfl (by rw [g1, k1]; decide)
        · rw [Int.toNat_natCast] at k2 k4
          simp only [tnz] at hm
          simp only [tsz] at hz
          have hb1 : tsz w' ≤ w * tsz w' := Nat.le_mul_of_pos_left _ (by omega)
          by_cases hwv : w = v
          · subst hwv
            generalize hs1 : mu (mu s 22 (2 * r.length) (s 4 ty)) 22 (2 * r.length + 1) (s 4 tu) = s1
            have c1 : ∀ {k j : Nat}, k ≠ 22 → s1 k j = s k j := fun h => by rw [← hs1, mu_c h, mu_c h]
            have F1 : Fr WO s s1 := by rw [← hs1]; exact Fr.mu (S := WO) (Fr.mu (S := WO) (Fr.rf s) rfl) rfl
            have tk1 : s1 2 ty = 2 := by rw [c1 (by decide), g1]
            have hp : PW s1 M C ((w', v') :: r) := by
              refine ⟨?_, ?_, PW_put r F1 (fun j hj => ?_) h3⟩
              · rw [show s1 22 (2 * r.length) = s 4 ty by rw [← hs1, mu_i (by omega), mu_s]]
                exact RT_WO F1 g4
              · rw [show s1 22 (2 * r.length + 1) = s 4 tu by rw [← hs1, mu_s]]
                exact RT_WO F1 k4
              · rw [← hs1, mu_i (by omega), mu_i (by omega)]
            obtain ⟨s', p1, p2⟩ := ih ((w', v') :: r) s1 (aI ty) (aI tu) l7 l8 (by simp only [pwM]; omega) (by simp only [pwZ]; omega) hp (by rw [List.length_cons]; omega)
            rw [List.length_cons, show ((r.length + 1 : Nat) : Int) = (r.length : Int) + 1 by omega] at p1
            refine ⟨s', Eq.trans ?_ (p1.trans ?_), F1.tr p2⟩
            · rw [x34_16]
              simp (disch := first | exact obC_0 | omega | (simp only [aN1_2, aN1_22, aN1_3, aN1_4, aN1_6, aN1_7, aN1_8, aN1_9]; omega) | (simp only [List.length_cons, List.length_nil]; omega)) only [en34, x34_0, x34_1, x34_4, x34_5, x34_6, x34_8, x34_9, x34_10, x34_11, x34_12, x34_13, x34_14, x34_15, x34_18, x34_21, x34_24, x34_25, x34_26, x34_28, x34_29, x34_30, x34_32, x34_33, x34_34, x34_36, x34_37, x34_38, x34_39, x34_40, x34_42, x34_43, x34_46, x34_48, x34_49, x34_50, x34_53, x34_55, x34_56, x34_59, x34_60, x34_63, x34_65, x34_66, x34_67, x34_70, x34_71, x34_74, x34_76, x34_77, x34_78, x34_81, x34_83, x34_84, x34_87, x34_88, x34_89, x34_90, x34_93, x34_95, x34_96, x34_97, x34_100, x34_101, x34_102, x34_104, x34_105, x34_106, x34_109, x34_111, x34_112, x34_113, x34_114, x34_115, x34_117, x34_118, x34_119, x34_120, x34_121, x34_124, x34_126, x34_127, x34_128, x34_131, x34_132, x34_135, x34_137, x34_138, x34_139, x34_142, x34_145, x34_146, x34_149, x34_151, x34_152, x34_154, x34_155, x34_158, x34_160, x34_161, x34_165, x34_168, x34_170, x34_173, x34_174, x34_177, x34_179, x34_180, x34_181, x34_184, x34_186, x34_187, x34_190, x34_191, x34_194, x34_196, x34_197, x34_198, x34_201, x34_203, x34_204, x34_207, x34_208, x34_209, x34_210, x34_211, x34_213, x34_214, x34_215, x34_218, x34_220, x34_221, x34_222, x34_223, x34_224, x34_226, x34_227, x34_228, x34_229, x34_230, x34_233, x34_235, x34_236, x34_237, x34_240, x34_241, x34_244, x34_246, x34_247, x34_249, x34_250, x34_253, x34_255, x34_256, x34_258, x34_261, x34_263, x34_266, x34_268, x34_271, x34_272, x34_273, x34_276, x34_277, fcn_0_10, fcn_0_11, fcn_0_12, fcn_0_13, fcn_0_29, fcn_0_6, fcn_0_7, fcn_0_8, if_true, if_false, eq_self, Int.reduceEq, Int.reduceLT, Int.reduceLE, Int.reduceAdd, Int.reduceSub, Int.reduceMul, Int.reduceToNat, Nat.reduceAdd, Nat.reduceMul, Nat.reduceEqDiff, Int.toNat_natCast, wrap_id, e0, e1, e2, hty, htu, g1, k1, g2, k2, mu_c, hs1, tk1, if_pos (show 0 < (r.length : Int) + 1 by omega)]
            · simp only [pwA, alk, decide_true, Bool.true_and]
              rfl
          · refine ⟨s, ?_, Fr.rf s⟩
            rw [if_neg (by simp only [pwA, alk, decide_eq_false hwv, Bool.false_and]; decide)]
            rw [x34_16]
            simp (disch := first | exact obC_0 | omega | (simp only [aN1_2, aN1_22, aN1_3, aN1_4, aN1_6, aN1_7, aN1_8, aN1_9]; omega) | (simp only [List.length_cons, List.length_nil]; omega)) only [en34, x34_0, x34_1, x34_4, x34_5, x34_6, x34_8, x34_9, x34_10, x34_11, x34_12, x34_13, x34_14, x34_15, x34_18, x34_21, x34_24, x34_25, x34_26, x34_28, x34_29, x34_30, x34_32, x34_33, x34_34, x34_36, x34_37, x34_38, x34_39, x34_40, x34_42, x34_43, x34_46, x34_48, x34_49, x34_50, x34_53, x34_55, x34_56, x34_59, x34_60, x34_63, x34_65, x34_66, x34_67, x34_70, x34_71, x34_74, x34_76, x34_77, x34_78, x34_81, x34_83, x34_84, x34_87, x34_88, x34_89, x34_90, x34_93, x34_95, x34_96, x34_97, x34_100, x34_101, x34_102, x34_104, x34_105, x34_106, x34_109, x34_111, x34_112, x34_113, x34_114, x34_115, x34_117, x34_118, x34_119, x34_120, x34_121, x34_124, x34_126, x34_127, x34_128, x34_131, x34_132, x34_135, x34_137, x34_138, x34_139, x34_142, x34_145, x34_146, x34_149, x34_151, x34_152, x34_154, x34_155, x34_158, x34_160, x34_161, x34_165, x34_168, x34_170, x34_173, x34_174, x34_177, x34_179, x34_180, x34_181, x34_184, x34_186, x34_187, x34_190, x34_191, x34_194, x34_196, x34_197, x34_198, x34_201, x34_203, x34_204, x34_207, x34_208, x34_209, x34_210, x34_211, x34_213, x34_214, x34_215, x34_218, x34_220, x34_221, x34_222, x34_223, x34_224, x34_226, x34_227, x34_228, x34_229, x34_230, x34_233, x34_235, x34_236, x34_237, x34_240, x34_241, x34_244, x34_246, x34_247, x34_249, x34_250, x34_253, x34_255, x34_256, x34_258, x34_261, x34_263, x34_266, x34_268, x34_271, x34_272, x34_273, x34_276, x34_277, fcn_0_10, fcn_0_11, fcn_0_12, fcn_0_13, fcn_0_29, fcn_0_6, fcn_0_7, fcn_0_8, if_true, if_false, eq_self, Int.reduceEq, Int.reduceLT, Int.reduceLE, Int.reduceAdd, Int.reduceSub, Int.reduceMul, Int.reduceToNat, Nat.reduceAdd, Nat.reduceMul, Nat.reduceEqDiff, Int.toNat_natCast, wrap_id, e0, e1, e2, hty, htu, g1, k1, g2, k2, if_neg (show ¬ (w : Int) = v by omega), if_pos (show 0 < (r.length : Int) + 1 by omega)]
theorem t_alike {d M C : Nat} (hd : 1 ≤ d) (hM : M ≤ 200) (hC : C ≤ 100) (s : Mem) {t u : Jvm.Term} {ty tu : Int} (h1 : RT s 0 M 0 C true t ty) (h2 : RT s 0 M 0 C true u tu) (hz : tsz t ≤ 24) :
    ∃ s', Zc d 34 [aR 0, aI ty, aI tu] s = rI (if alk t u = true then 1 else 0) s' ∧ Fr WO s s' := by
  obtain ⟨d, rfl⟩ : ∃ e, d = e + 1 := ⟨d - 1, by omega⟩
  generalize hs1 : mu (mu s 22 0 ty) 22 1 tu = s1
  have F1 : Fr WO s s1 := by rw [← hs1]; exact Fr.mu (S := WO) (Fr.mu (S := WO) (Fr.rf s) rfl) rfl
  have w0 : s1 22 (2 * 0) = ty := by rw [← hs1, mu_i (by decide), mu_s]
  have w1 : s1 22 (2 * 0 + 1) = tu := by rw [← hs1, mu_s]
  obtain ⟨s', p1, p2⟩ := aw_all (d := d) hM hC ty tu (pwM [(t, u)] + 1) [(t, u)] s1 aU aU aU aU (by omega) (by simp only [pwZ]; omega) ⟨by rw [show ([] : List (Jvm.Term × Jvm.Term)).length = 0 from rfl, w0]; exact RT_WO F1 h1, by rw [show ([] : List (Jvm.Term × Jvm.Term)).length = 0 from rfl, w1]; exact RT_WO F1 h2, trivial⟩ (by show 1 ≤ 24; decide)
  refine ⟨s', Eq.trans ?_ (p1.trans ?_), F1.tr p2⟩
  · have z1 : ((([(t, u)] : List (Jvm.Term × Jvm.Term)).length : Nat) : Int) = 1 := rfl
    rw [z1]
    simp (disch := first | exact obC_0 | omega | (simp only [aN1_2, aN1_22, aN1_3, aN1_4, aN1_6, aN1_7, aN1_8, aN1_9]; omega) | (simp only [List.length_cons, List.length_nil]; omega)) only [en34, x34_0, x34_1, x34_4, x34_5, x34_6, x34_8, x34_9, x34_10, x34_11, x34_12, x34_13, x34_14, x34_15, x34_18, x34_21, x34_24, x34_25, x34_26, x34_28, x34_29, x34_30, x34_32, x34_33, x34_34, x34_36, x34_37, x34_38, x34_39, x34_40, x34_42, x34_43, x34_46, x34_48, x34_49, x34_50, x34_53, x34_55, x34_56, x34_59, x34_60, x34_63, x34_65, x34_66, x34_67, x34_70, x34_71, x34_74, x34_76, x34_77, x34_78, x34_81, x34_83, x34_84, x34_87, x34_88, x34_89, x34_90, x34_93, x34_95, x34_96, x34_97, x34_100, x34_101, x34_102, x34_104, x34_105, x34_106, x34_109, x34_111, x34_112, x34_113, x34_114, x34_115, x34_117, x34_118, x34_119, x34_120, x34_121, x34_124, x34_126, x34_127, x34_128, x34_131, x34_132, x34_135, x34_137, x34_138, x34_139, x34_142, x34_145, x34_146, x34_149, x34_151, x34_152, x34_154, x34_155, x34_158, x34_160, x34_161, x34_165, x34_168, x34_170, x34_173, x34_174, x34_177, x34_179, x34_180, x34_181, x34_184, x34_186, x34_187, x34_190, x34_191, x34_194, x34_196, x34_197, x34_198, x34_201, x34_203, x34_204, x34_207, x34_208, x34_209, x34_210, x34_211, x34_213, x34_214, x34_215, x34_218, x34_220, x34_221, x34_222, x34_223, x34_224, x34_226, x34_227, x34_228, x34_229, x34_230, x34_233, x34_235, x34_236, x34_237, x34_240, x34_241, x34_244, x34_246, x34_247, x34_249, x34_250, x34_253, x34_255, x34_256, x34_258, x34_261, x34_263, x34_266, x34_268, x34_271, x34_272, x34_273, x34_276, x34_277, fcn_0_10, fcn_0_11, fcn_0_12, fcn_0_13, fcn_0_29, fcn_0_6, fcn_0_7, fcn_0_8, if_true, if_false, eq_self, Int.reduceEq, Int.reduceLT, Int.reduceLE, Int.reduceAdd, Int.reduceSub, Int.reduceMul, Int.reduceToNat, Nat.reduceAdd, Nat.reduceMul, Nat.reduceEqDiff, Int.toNat_natCast, wrap_id, hs1]
  · simp only [pwA, Bool.and_true]
