def FEv (k j : Nat) : Prop := FBc k j ∨ ((k = 49 ∨ k = 44) ∧ j < 24)
theorem FEv_k {s s' : Mem} {k j : Nat} (f : Fr FEv s s') (h : k ≠ 22 ∧ k ≠ 51 ∧ k ≠ 50 ∧ k ≠ 49 ∧ k ≠ 44) : s' k j = s k j := f _ _ (by unfold FEv FBc; omega)
theorem LV_ev {s s' : Mem} {sg : List Sg} {lo : List Lo} {W : Nat → Nat} (f : Fr FEv s s') (h : LV s sg lo W) : LV s' sg lo W := LV_put (fun k j hk => FEv_k f (by omega)) h
theorem bas_dec (x : Sg) : x.1 = 3 ∨ (x.1 = 4 ∧ ¬ bas x) ∨ (x.1 ≠ 3 ∧ x.1 ≠ 4 ∧ isSk x.1 x.2.2.1 ∧ ¬ bas x) ∨ (x.1 ≠ 3 ∧ x.1 ≠ 4 ∧ ¬ isSk x.1 x.2.2.1 ∧ bas x) := by
  unfold bas
  by_cases h3 : x.1 = 3
  · exact Or.inl h3
  · by_cases h4 : x.1 = 4
    · exact Or.inr (Or.inl ⟨h4, fun z => z.elim h3 (fun z => z.1 h4)⟩)
    · by_cases hk : isSk x.1 x.2.2.1
      · exact Or.inr (Or.inr (Or.inl ⟨h3, h4, hk, fun z => z.elim h3 (fun z => z.2 hk)⟩))
      · exact Or.inr (Or.inr (Or.inr ⟨h3, h4, hk, Or.inr ⟨h4, hk⟩⟩))
/-- the first loop: what is known from the start -/
theorem ev_first {d : Nat} {sg : List Sg} {lo : List Lo} {W : Nat → Nat} {st : Nat → Int} {K : Nat → Prop} (hK : ∀ (g : Nat) (x : Sg), sg[g]? = some x → (K g ↔ ¬ bas x)) : ∀ (m g : Nat) (s : Mem) (l3 l4 : AV), g + m = sg.length → LV s sg lo W → (∀ j, j < 24 → s 45 j = st j) →
    ∃ s' l3', Ze d 51 4 [aR 0, aI (cntP K g), aI g, l3, l4] [] s = Ze d 51 88 [aR 0, aI (cntP K sg.length), aI sg.length, l3', l4] [] s' ∧ (∀ (j : Nat) (x : Sg), g ≤ j → sg[j]? = some x → (bas x → s' 49 j = 1 ∧ s' 44 j = st j) ∧ (¬ bas x → s' 49 j = 0 ∧ s' 44 j = s 44 j)) ∧ (∀ j, j < g ∨ sg.length ≤ j → s' 49 j = s 49 j ∧ s' 44 j = s 44 j) ∧ Fr FEv s s' := by
  intro m
  induction m with
  | zero =>
    intro g s l3 l4 hg hL hst
    refine ⟨s, l3, ?_, fun j x h1 h2 => ?_, fun _ _ => ⟨rfl, rfl⟩, Fr.rf s⟩
    · rw [show g = sg.length by omega, x51_4]
      simp (disch := first | exact obC_0 | omega | (simp only [aN1_35, aN1_37, aN1_39, aN1_40, aN1_44, aN1_45, aN2_49]; omega) | (simp only [List.length_cons, List.length_nil]; omega)) only [en51, x51_0, x51_1, x51_2, x51_3, x51_5, x51_6, x51_9, x51_12, x51_13, x51_16, x51_18, x51_19, x51_20, x51_21, x51_22, x51_23, x51_26, x51_27, x51_28, x51_29, x51_32, x51_33, x51_34, x51_37, x51_38, x51_41, x51_43, x51_44, x51_45, x51_46, x51_49, x51_50, x51_53, x51_54, x51_55, x51_56, x51_59, x51_60, x51_61, x51_64, x51_65, x51_68, x51_69, x51_70, x51_73, x51_74, x51_75, x51_76, x51_79, x51_82, x51_85, x51_89, x51_92, x51_93, x51_95, x51_96, x51_99, x51_102, x51_103, x51_106, x51_107, x51_108, x51_111, x51_112, x51_115, x51_116, x51_117, x51_118, x51_122, x51_123, x51_126, x51_129, x51_130, x51_133, x51_134, x51_137, x51_139, x51_140, x51_141, x51_142, x51_144, x51_145, x51_146, x51_147, x51_148, x51_151, x51_152, x51_155, x51_157, x51_158, x51_161, x51_162, x51_163, x51_166, x51_169, x51_170, x51_173, x51_176, x51_177, x51_180, x51_181, x51_182, x51_185, x51_187, x51_188, x51_189, x51_190, x51_191, x51_194, x51_195, x51_196, x51_199, x51_201, x51_202, x51_203, x51_204, x51_207, x51_210, x51_211, x51_212, x51_215, x51_216, x51_217, x51_220, x51_221, x51_222, x51_223, x51_226, x51_229, x51_232, x51_235, fcn_0_44, fcn_0_46, fcn_0_48, fcn_0_49, fcn_0_59, fcn_0_60, fcn_0_64, if_true, if_false, eq_self, Int.reduceEq, Int.reduceLT, Int.reduceLE, Int.reduceAdd, Int.reduceSub, Int.reduceMul, Int.reduceToNat, Nat.reduceAdd, Nat.reduceMul, Nat.reduceEqDiff, Int.toNat_natCast, wrap_id, hL.1, if_neg (show ¬ (sg.length : Int) < sg.length by omega)]
    · have := (List.getElem?_eq_some_iff.mp h2).1
      omega
  | succ m ih =>
    intro g s l3 l4 hg hL hst
    have hgl : g < sg.length := by omega
    obtain ⟨x, hx⟩ : ∃ x, sg[g]? = some x := ⟨_, List.getElem?_eq_getElem hgl⟩
    have hL24 := hL.2.1
    obtain ⟨z1, z2, z3, z4, z5, z6, z7⟩ := hL.2.2.2.2.2.2.2.2 g x hx
    have hlt : (g : Int) < sg.length := by omega
    have eg : ((g + 1 : Nat) : Int) = (g : Int) + 1 := by omega
    have e1 : (24 : Int) + g = ((24 + g : Nat) : Int) := rfl
    have hsg := hst g (by omega)
    have hc : cntP K (g + 1) = cntP K g + @ite _ (K g) (Classical.propDecidable _) 1 0 := rfl
    have hcn := cntP_n (P := K) g
    have kfin : ∀ (s1 : Mem) (l3' : AV), Ze d 51 4 [aR 0, aI (cntP K g), aI g, l3, l4] [] s = Ze d 51 4 [aR 0, aI (cntP K (g + 1)), aI ((g + 1 : Nat) : Int), l3', l4] [] s1 → (∀ k j, ¬ ((k = 49 ∨ k = 44) ∧ j = g) → s1 k j = s k j) → ((bas x → s1 49 g = 1 ∧ s1 44 g = st g) ∧ (¬ bas x → s1 49 g = 0 ∧ s1 44 g = s 44 g)) → ∃ s' l3', Ze d 51 4 [aR 0, aI (cntP K g), aI g, l3, l4] [] s = Ze d 51 88 [aR 0, aI (cntP K sg.length), aI sg.length, l3', l4] [] s' ∧ (∀ (j : Nat) (x : Sg), g ≤ j → sg[j]? = some x → (bas x → s' 49 j = 1 ∧ s' 44 j = st j) ∧ (¬ bas x → s' 49 j = 0 ∧ s' 44 j = s 44 j)) ∧ (∀ j, j < g ∨ sg.length ≤ j → s' 49 j = s 49 j ∧ s' 44 j = s 44 j) ∧ Fr FEv s s' := by
      intro s1 l3' hz hf hv
      have F1 : Fr FEv s s1 := fun k j hn => hf k j (fun z => hn (Or.inr ⟨z.1, by omega⟩))
      obtain ⟨s', l3'', q1, q2, q3, q4⟩ := ih (g + 1) s1 l3' l4 (by omega) (LV_ev F1 hL) (fun j hj => by rw [hf _ _ (by omega), hst j hj])
      refine ⟨s', l3'', hz.trans q1, fun j y h1 h2 => ?_, fun j hj => ?_, F1.tr q4⟩
      · by_cases hjg : j = g
        · subst hjg
          rw [hx] at h2
          cases h2
          obtain ⟨w1, w2⟩ := q3 j (Or.inl (Nat.lt_succ_self _))
          rw [w1, w2]
          exact hv
        · have := q2 j y (by omega) h2
          rw [hf 44 j (by omega)] at this
          exact this
      · obtain ⟨w1, w2⟩ := q3 j (hj.imp (fun z => by omega) id)
        rw [w1, w2]
        exact ⟨hf _ _ (by omega), hf _ _ (by omega)⟩
    have known : bas x → (Ze d 51 4 [aR 0, aI (cntP K g), aI g, l3, l4] [] s = Ze d 51 4 [aR 0, aI (cntP K g), aI ((g : Int) + 1), aI x.1, l4] [] (mu (mu s 49 g 1) 44 g (st g))) → _ := fun hb hz => kfin (mu (mu s 49 g 1) 44 g (st g)) (aI x.1) (by
        rw [hc, if_neg (fun z => (hK g x hx).mp z hb), Nat.add_zero, eg]
        exact hz) (fun k j hn => by
          by_cases hk1 : k = 44
          · rw [hk1, mu_i (by omega), mu_c (by decide)]
          · rw [mu_c hk1]
            by_cases hk2 : k = 49
            · rw [hk2, mu_i (by omega)]
            · rw [mu_c hk2]) ⟨fun _ => ⟨by rw [mu_c (by decide), mu_s], mu_s⟩, fun z => absurd hb z⟩
    have unknown : ¬ bas x → (Ze d 51 4 [aR 0, aI (cntP K g), aI g, l3, l4] [] s = Ze d 51 4 [aR 0, aI ((cntP K g : Int) + 1), aI ((g : Int) + 1), aI x.1, l4] [] (mu s 49 g 0)) → _ := fun hb hz => kfin (mu s 49 g 0) (aI x.1) (by
        rw [hc, if_pos ((hK g x hx).mpr hb), eg]
        exact hz) (fun k j hn => by
          by_cases hk2 : k = 49
          · rw [hk2, mu_i (by omega)]
          · rw [mu_c hk2]) ⟨fun z => absurd z hb, fun _ => ⟨mu_s, by rw [mu_c (by decide)]⟩⟩
    rcases bas_dec x with h | ⟨h, hb⟩ | ⟨h3, h4, hk, hb⟩ | ⟨h3, h4, hk, hb⟩
    · refine known (Or.inl h) ?_
      have z1 : s 35 (24 + g) = 3 := by rw [z1, h]; rfl
      rw [x51_4, show ((x.1 : Nat) : Int) = 3 by rw [h]; rfl]
      simp (disch := first | exact obC_0 | omega | (simp only [aN1_35, aN1_37, aN1_39, aN1_40, aN1_44, aN1_45, aN2_49]; omega) | (simp only [List.length_cons, List.length_nil]; omega)) only [en51, x51_0, x51_1, x51_2, x51_3, x51_5, x51_6, x51_9, x51_12, x51_13, x51_16, x51_18, x51_19, x51_20, x51_21, x51_22, x51_23, x51_26, x51_27, x51_28, x51_29, x51_32, x51_33, x51_34, x51_37, x51_38, x51_41, x51_43, x51_44, x51_45, x51_46, x51_49, x51_50, x51_53, x51_54, x51_55, x51_56, x51_59, x51_60, x51_61, x51_64, x51_65, x51_68, x51_69, x51_70, x51_73, x51_74, x51_75, x51_76, x51_79, x51_82, x51_85, x51_89, x51_92, x51_93, x51_95, x51_96, x51_99, x51_102, x51_103, x51_106, x51_107, x51_108, x51_111, x51_112, x51_115, x51_116, x51_117, x51_118, x51_122, x51_123, x51_126, x51_129, x51_130, x51_133, x51_134, x51_137, x51_139, x51_140, x51_141, x51_142, x51_144, x51_145, x51_146, x51_147, x51_148, x51_151, x51_152, x51_155, x51_157, x51_158, x51_161, x51_162, x51_163, x51_166, x51_169, x51_170, x51_173, x51_176, x51_177, x51_180, x51_181, x51_182, x51_185, x51_187, x51_188, x51_189, x51_190, x51_191, x51_194, x51_195, x51_196, x51_199, x51_201, x51_202, x51_203, x51_204, x51_207, x51_210, x51_211, x51_212, x51_215, x51_216, x51_217, x51_220, x51_221, x51_222, x51_223, x51_226, x51_229, x51_232, x51_235, fcn_0_44, fcn_0_46, fcn_0_48, fcn_0_49, fcn_0_59, fcn_0_60, fcn_0_64, if_true, if_false, eq_self, Int.reduceEq, Int.reduceLT, Int.reduceLE, Int.reduceAdd, Int.reduceSub, Int.reduceMul, Int.reduceToNat, Nat.reduceAdd, Nat.reduceMul, Nat.reduceEqDiff, Int.toNat_natCast, wrap_id, hL.1, if_pos hlt, e1, z1, mu_s, mu_c, hsg]
    · refine unknown hb ?_
      have z1 : s 35 (24 + g) = 4 := by rw [z1, h]; rfl
      rw [x51_4, show ((x.1 : Nat) : Int) = 4 by rw [h]; rfl]
      simp (disch := first | exact obC_0 | omega | (simp only [aN1_35, aN1_37, aN1_39, aN1_40, aN1_44, aN1_45, aN2_49]; omega) | (simp only [List.length_cons, List.length_nil]; omega)) only [en51, x51_0, x51_1, x51_2, x51_3, x51_5, x51_6, x51_9, x51_12, x51_13, x51_16, x51_18, x51_19, x51_20, x51_21, x51_22, x51_23, x51_26, x51_27, x51_28, x51_29, x51_32, x51_33, x51_34, x51_37, x51_38, x51_41, x51_43, x51_44, x51_45, x51_46, x51_49, x51_50, x51_53, x51_54, x51_55, x51_56, x51_59, x51_60, x51_61, x51_64, x51_65, x51_68, x51_69, x51_70, x51_73, x51_74, x51_75, x51_76, x51_79, x51_82, x51_85, x51_89, x51_92, x51_93, x51_95, x51_96, x51_99, x51_102, x51_103, x51_106, x51_107, x51_108, x51_111, x51_112, x51_115, x51_116, x51_117, x51_118, x51_122, x51_123, x51_126, x51_129, x51_130, x51_133, x51_134, x51_137, x51_139, x51_140, x51_141, x51_142, x51_144, x51_145, x51_146, x51_147, x51_148, x51_151, x51_152, x51_155, x51_157, x51_158, x51_161, x51_162, x51_163, x51_166, x51_169, x51_170, x51_173, x51_176, x51_177, x51_180, x51_181, x51_182, x51_185, x51_187, x51_188, x51_189, x51_190, x51_191, x51_194, x51_195, x51_196, x51_199, x51_201, x51_202, x51_203, x51_204, x51_207, x51_210, x51_211, x51_212, x51_215, x51_216, x51_217, x51_220, x51_221, x51_222, x51_223, x51_226, x51_229, x51_232, x51_235, fcn_0_44, fcn_0_46, fcn_0_48, fcn_0_49, fcn_0_59, fcn_0_60, fcn_0_64, if_true, if_false, eq_self, Int.reduceEq, Int.reduceLT, Int.reduceLE, Int.reduceAdd, Int.reduceSub, Int.reduceMul, Int.reduceToNat, Nat.reduceAdd, Nat.reduceMul, Nat.reduceEqDiff, Int.toNat_natCast, wrap_id, hL.1, if_pos hlt, e1, z1, mu_s, mu_c]
    · refine unknown hb ?_
      rw [x51_4]
      simp (disch := first | exact obC_0 | omega | (simp only [aN1_35, aN1_37, aN1_39, aN1_40, aN1_44, aN1_45, aN2_49]; omega) | (simp only [List.length_cons, List.length_nil]; omega)) only [en51, x51_0, x51_1, x51_2, x51_3, x51_5, x51_6, x51_9, x51_12, x51_13, x51_16, x51_18, x51_19, x51_20, x51_21, x51_22, x51_23, x51_26, x51_27, x51_28, x51_29, x51_32, x51_33, x51_34, x51_37, x51_38, x51_41, x51_43, x51_44, x51_45, x51_46, x51_49, x51_50, x51_53, x51_54, x51_55, x51_56, x51_59, x51_60, x51_61, x51_64, x51_65, x51_68, x51_69, x51_70, x51_73, x51_74, x51_75, x51_76, x51_79, x51_82, x51_85, x51_89, x51_92, x51_93, x51_95, x51_96, x51_99, x51_102, x51_103, x51_106, x51_107, x51_108, x51_111, x51_112, x51_115, x51_116, x51_117, x51_118, x51_122, x51_123, x51_126, x51_129, x51_130, x51_133, x51_134, x51_137, x51_139, x51_140, x51_141, x51_142, x51_144, x51_145, x51_146, x51_147, x51_148, x51_151, x51_152, x51_155, x51_157, x51_158, x51_161, x51_162, x51_163, x51_166, x51_169, x51_170, x51_173, x51_176, x51_177, x51_180, x51_181, x51_182, x51_185, x51_187, x51_188, x51_189, x51_190, x51_191, x51_194, x51_195, x51_196, x51_199, x51_201, x51_202, x51_203, x51_204, x51_207, x51_210, x51_211, x51_212, x51_215, x51_216, x51_217, x51_220, x51_221, x51_222, x51_223, x51_226, x51_229, x51_232, x51_235, fcn_0_44, fcn_0_46, fcn_0_48, fcn_0_49, fcn_0_59, fcn_0_60, fcn_0_64, if_true, if_false, eq_self, Int.reduceEq, Int.reduceLT, Int.reduceLE, Int.reduceAdd, Int.reduceSub, Int.reduceMul, Int.reduceToNat, Nat.reduceAdd, Nat.reduceMul, Nat.reduceEqDiff, Int.toNat_natCast, wrap_id, hL.1, if_pos hlt, e1, z1, z3 hk, mu_s, mu_c, if_neg (show ¬ (x.1 : Int) = 3 by omega), if_neg (show ¬ (x.1 : Int) = 4 by omega)]
    · refine known hb ?_
      rw [x51_4]
      simp (disch := first | exact obC_0 | omega | (simp only [aN1_35, aN1_37, aN1_39, aN1_40, aN1_44, aN1_45, aN2_49]; omega) | (simp only [List.length_cons, List.length_nil]; omega)) only [en51, x51_0, x51_1, x51_2, x51_3, x51_5, x51_6, x51_9, x51_12, x51_13, x51_16, x51_18, x51_19, x51_20, x51_21, x51_22, x51_23, x51_26, x51_27, x51_28, x51_29, x51_32, x51_33, x51_34, x51_37, x51_38, x51_41, x51_43, x51_44, x51_45, x51_46, x51_49, x51_50, x51_53, x51_54, x51_55, x51_56, x51_59, x51_60, x51_61, x51_64, x51_65, x51_68, x51_69, x51_70, x51_73, x51_74, x51_75, x51_76, x51_79, x51_82, x51_85, x51_89, x51_92, x51_93, x51_95, x51_96, x51_99, x51_102, x51_103, x51_106, x51_107, x51_108, x51_111, x51_112, x51_115, x51_116, x51_117, x51_118, x51_122, x51_123, x51_126, x51_129, x51_130, x51_133, x51_134, x51_137, x51_139, x51_140, x51_141, x51_142, x51_144, x51_145, x51_146, x51_147, x51_148, x51_151, x51_152, x51_155, x51_157, x51_158, x51_161, x51_162, x51_163, x51_166, x51_169, x51_170, x51_173, x51_176, x51_177, x51_180, x51_181, x51_182, x51_185, x51_187, x51_188, x51_189, x51_190, x51_191, x51_194, x51_195, x51_196, x51_199, x51_201, x51_202, x51_203, x51_204, x51_207, x51_210, x51_211, x51_212, x51_215, x51_216, x51_217, x51_220, x51_221, x51_222, x51_223, x51_226, x51_229, x51_232, x51_235, fcn_0_44, fcn_0_46, fcn_0_48, fcn_0_49, fcn_0_59, fcn_0_60, fcn_0_64, if_true, if_false, eq_self, Int.reduceEq, Int.reduceLT, Int.reduceLE, Int.reduceAdd, Int.reduceSub, Int.reduceMul, Int.reduceToNat, Nat.reduceAdd, Nat.reduceMul, Nat.reduceEqDiff, Int.toNat_natCast, wrap_id, hL.1, if_pos hlt, e1, z1, z4 hk, mu_s, mu_c, hsg, if_neg (show ¬ (x.1 : Int) = 3 by omega), if_neg (show ¬ (x.1 : Int) = 4 by omega)]
/-- is g ready -/
theorem ev_ready {d g : Nat} {left : Int} {sg : List Sg} {lo : List Lo} {W : Nat → Nat} {K : Nat → Prop} {s : Mem} (hg : g < sg.length) (hL : LV s sg lo W) (hK : ∀ j, j < sg.length → (K j → s 49 j = 1) ∧ (¬ K j → s 49 j = 0)) : ∀ (m h : Nat) (b : Bool), h + m = sg.length →
    ∃ (b' : Bool) (l4 : AV), Ze d 51 120 [aR 0, aI left, aI g, aI (b2i b), aI h] [] s = Ze d 51 169 [aR 0, aI left, aI g, aI (b2i b'), l4] [] s ∧ (b' = true ↔ b = true ∧ ∀ j, h ≤ j → j < sg.length → dpd sg lo g j → K j) := by
  obtain ⟨l1, l2, -, -, -, -, -, -, l9⟩ := hL
  obtain ⟨x, hx⟩ : ∃ x, sg[g]? = some x := ⟨_, List.getElem?_eq_getElem hg⟩
  obtain ⟨-, -, -, -, -, ⟨dn, z6, z62, z63⟩, -⟩ := l9 g x hx
  have e1 : (24 : Int) + g = ((24 + g : Nat) : Int) := rfl
  intro m
  induction m with
  | zero =>
    intro h b hh
    refine ⟨b, aI h, ?_, ⟨fun z => ⟨z, fun j h1 h2 => by omega⟩, fun z => z.1⟩⟩
    rw [show h = sg.length by omega, x51_120]
    simp (disch := first | exact obC_0 | omega | (simp only [aN1_35, aN1_37, aN1_39, aN1_40, aN1_44, aN1_45, aN2_49]; omega) | (simp only [List.length_cons, List.length_nil]; omega)) only [en51, x51_0, x51_1, x51_2, x51_3, x51_5, x51_6, x51_9, x51_12, x51_13, x51_16, x51_18, x51_19, x51_20, x51_21, x51_22, x51_23, x51_26, x51_27, x51_28, x51_29, x51_32, x51_33, x51_34, x51_37, x51_38, x51_41, x51_43, x51_44, x51_45, x51_46, x51_49, x51_50, x51_53, x51_54, x51_55, x51_56, x51_59, x51_60, x51_61, x51_64, x51_65, x51_68, x51_69, x51_70, x51_73, x51_74, x51_75, x51_76, x51_79, x51_82, x51_85, x51_89, x51_92, x51_93, x51_95, x51_96, x51_99, x51_102, x51_103, x51_106, x51_107, x51_108, x51_111, x51_112, x51_115, x51_116, x51_117, x51_118, x51_122, x51_123, x51_126, x51_129, x51_130, x51_133, x51_134, x51_137, x51_139, x51_140, x51_141, x51_142, x51_144, x51_145, x51_146, x51_147, x51_148, x51_151, x51_152, x51_155, x51_157, x51_158, x51_161, x51_162, x51_163, x51_166, x51_170, x51_173, x51_176, x51_177, x51_180, x51_181, x51_182, x51_185, x51_187, x51_188, x51_189, x51_190, x51_191, x51_194, x51_195, x51_196, x51_199, x51_201, x51_202, x51_203, x51_204, x51_207, x51_210, x51_211, x51_212, x51_215, x51_216, x51_217, x51_220, x51_221, x51_222, x51_223, x51_226, x51_229, x51_232, x51_235, fcn_0_44, fcn_0_46, fcn_0_48, fcn_0_49, fcn_0_59, fcn_0_60, fcn_0_64, if_true, if_false, eq_self, Int.reduceEq, Int.reduceLT, Int.reduceLE, Int.reduceAdd, Int.reduceSub, Int.reduceMul, Int.reduceToNat, Nat.reduceAdd, Nat.reduceMul, Nat.reduceEqDiff, Int.toNat_natCast, wrap_id, l1, if_neg (show ¬ (sg.length : Int) < sg.length by omega)]
  | succ m ih =>
    intro h b hh
    have hlt : (h : Int) < sg.length := by omega
    have eh : ((h + 1 : Nat) : Int) = (h : Int) + 1 := by omega
    cases b with
    | false =>
      refine ⟨false, aI h, ?_, ⟨fun z => (nomatch z), fun z => (nomatch z.1)⟩⟩
      rw [x51_120, show b2i false = 0 from rfl]
      simp (disch := first | exact obC_0 | omega | (simp only [aN1_35, aN1_37, aN1_39, aN1_40, aN1_44, aN1_45, aN2_49]; omega) | (simp only [List.length_cons, List.length_nil]; omega)) only [en51, x51_0, x51_1, x51_2, x51_3, x51_5, x51_6, x51_9, x51_12, x51_13, x51_16, x51_18, x51_19, x51_20, x51_21, x51_22, x51_23, x51_26, x51_27, x51_28, x51_29, x51_32, x51_33, x51_34, x51_37, x51_38, x51_41, x51_43, x51_44, x51_45, x51_46, x51_49, x51_50, x51_53, x51_54, x51_55, x51_56, x51_59, x51_60, x51_61, x51_64, x51_65, x51_68, x51_69, x51_70, x51_73, x51_74, x51_75, x51_76, x51_79, x51_82, x51_85, x51_89, x51_92, x51_93, x51_95, x51_96, x51_99, x51_102, x51_103, x51_106, x51_107, x51_108, x51_111, x51_112, x51_115, x51_116, x51_117, x51_118, x51_122, x51_123, x51_126, x51_129, x51_130, x51_133, x51_134, x51_137, x51_139, x51_140, x51_141, x51_142, x51_144, x51_145, x51_146, x51_147, x51_148, x51_151, x51_152, x51_155, x51_157, x51_158, x51_161, x51_162, x51_163, x51_166, x51_170, x51_173, x51_176, x51_177, x51_180, x51_181, x51_182, x51_185, x51_187, x51_188, x51_189, x51_190, x51_191, x51_194, x51_195, x51_196, x51_199, x51_201, x51_202, x51_203, x51_204, x51_207, x51_210, x51_211, x51_212, x51_215, x51_216, x51_217, x51_220, x51_221, x51_222, x51_223, x51_226, x51_229, x51_232, x51_235, fcn_0_44, fcn_0_46, fcn_0_48, fcn_0_49, fcn_0_59, fcn_0_60, fcn_0_64, if_true, if_false, eq_self, Int.reduceEq, Int.reduceLT, Int.reduceLE, Int.reduceAdd, Int.reduceSub, Int.reduceMul, Int.reduceToNat, Nat.reduceAdd, Nat.reduceMul, Nat.reduceEqDiff, Int.toNat_natCast, wrap_id, l1, if_pos hlt]
    | true =>
      have hb := b_bit z62 (show h < 24 by omega)
      obtain ⟨k1, k0⟩ := hK h (by omega)
      have next : ∀ b1 : Bool, (b1 = true ↔ (dpd sg lo g h → K h)) → Ze d 51 120 [aR 0, aI left, aI g, aI (b2i true), aI h] [] s = Ze d 51 120 [aR 0, aI left, aI g, aI (b2i b1), aI ((h + 1 : Nat) : Int)] [] s → ∃ (b' : Bool) (l4 : AV), Ze d 51 120 [aR 0, aI left, aI g, aI (b2i true), aI h] [] s = Ze d 51 169 [aR 0, aI left, aI g, aI (b2i b'), l4] [] s ∧ (b' = true ↔ true = true ∧ ∀ j, h ≤ j → j < sg.length → dpd sg lo g j → K j) := by
        intro b1 hb1 hz
        obtain ⟨b', l4, q1, q2⟩ := ih (h + 1) b1 (by omega)
        refine ⟨b', l4, hz.trans q1, q2.trans ⟨fun z => ⟨rfl, fun j h1 h2 h3 => ?_⟩, fun z => ⟨hb1.mpr (fun y => z.2 h (Nat.le_refl _) (by omega) y), fun j h1 h2 h3 => z.2 j (by omega) h2 h3⟩⟩⟩
        by_cases hjh : j = h
        · rw [hjh]
          rw [hjh] at h3
          exact hb1.mp z.1 h3
        · exact z.2 j (by omega) h2 h3
      by_cases hd : dpd sg lo g h
      · rw [(z63 h (by omega)).mpr hd] at hb
        have hb : iand (ishr dn h) 1 = 1 := hb
        by_cases hk : K h
        · refine next true ⟨fun _ _ => hk, fun _ => rfl⟩ ?_
          rw [eh, x51_120, show b2i true = 1 from rfl]
          simp (disch := first | exact obC_0 | omega | (simp only [aN1_35, aN1_37, aN1_39, aN1_40, aN1_44, aN1_45, aN2_49]; omega) | (simp only [List.length_cons, List.length_nil]; omega)) only [en51, x51_0, x51_1, x51_2, x51_3, x51_5, x51_6, x51_9, x51_12, x51_13, x51_16, x51_18, x51_19, x51_20, x51_21, x51_22, x51_23, x51_26, x51_27, x51_28, x51_29, x51_32, x51_33, x51_34, x51_37, x51_38, x51_41, x51_43, x51_44, x51_45, x51_46, x51_49, x51_50, x51_53, x51_54, x51_55, x51_56, x51_59, x51_60, x51_61, x51_64, x51_65, x51_68, x51_69, x51_70, x51_73, x51_74, x51_75, x51_76, x51_79, x51_82, x51_85, x51_89, x51_92, x51_93, x51_95, x51_96, x51_99, x51_102, x51_103, x51_106, x51_107, x51_108, x51_111, x51_112, x51_115, x51_116, x51_117, x51_118, x51_122, x51_123, x51_126, x51_129, x51_130, x51_133, x51_134, x51_137, x51_139, x51_140, x51_141, x51_142, x51_144, x51_145, x51_146, x51_147, x51_148, x51_151, x51_152, x51_155, x51_157, x51_158, x51_161, x51_162, x51_163, x51_166, x51_169, x51_170, x51_173, x51_176, x51_177, x51_180, x51_181, x51_182, x51_185, x51_187, x51_188, x51_189, x51_190, x51_191, x51_194, x51_195, x51_196, x51_199, x51_201, x51_202, x51_203, x51_204, x51_207, x51_210, x51_211, x51_212, x51_215, x51_216, x51_217, x51_220, x51_221, x51_222, x51_223, x51_226, x51_229, x51_232, x51_235, fcn_0_44, fcn_0_46, fcn_0_48, fcn_0_49, fcn_0_59, fcn_0_60, fcn_0_64, if_true, if_false, eq_self, Int.reduceEq, Int.reduceLT, Int.reduceLE, Int.reduceAdd, Int.reduceSub, Int.reduceMul, Int.reduceToNat, Nat.reduceAdd, Nat.reduceMul, Nat.reduceEqDiff, Int.toNat_natCast, wrap_id, l1, if_pos hlt, e1, z6, hb, k1 hk]
        · refine next false ⟨fun z => (nomatch z), fun z => absurd (z hd) hk⟩ ?_
          rw [eh, x51_120, show b2i true = 1 from rfl, show b2i false = 0 from rfl]
          simp (disch := first | exact obC_0 | omega | (simp only [aN1_35, aN1_37, aN1_39, aN1_40, aN1_44, aN1_45, aN2_49]; omega) | (simp only [List.length_cons, List.length_nil]; omega)) only [en51, x51_0, x51_1, x51_2, x51_3, x51_5, x51_6, x51_9, x51_12, x51_13, x51_16, x51_18, x51_19, x51_20, x51_21, x51_22, x51_23, x51_26, x51_27, x51_28, x51_29, x51_32, x51_33, x51_34, x51_37, x51_38, x51_41, x51_43, x51_44, x51_45, x51_46, x51_49, x51_50, x51_53, x51_54, x51_55, x51_56, x51_59, x51_60, x51_61, x51_64, x51_65, x51_68, x51_69, x51_70, x51_73, x51_74, x51_75, x51_76, x51_79, x51_82, x51_85, x51_89, x51_92, x51_93, x51_95, x51_96, x51_99, x51_102, x51_103, x51_106, x51_107, x51_108, x51_111, x51_112, x51_115, x51_116, x51_117, x51_118, x51_122, x51_123, x51_126, x51_129, x51_130, x51_133, x51_134, x51_137, x51_139, x51_140, x51_141, x51_142, x51_144, x51_145, x51_146, x51_147, x51_148, x51_151, x51_152, x51_155, x51_157, x51_158, x51_161, x51_162, x51_163, x51_166, x51_169, x51_170, x51_173, x51_176, x51_177, x51_180, x51_181, x51_182, x51_185, x51_187, x51_188, x51_189, x51_190, x51_191, x51_194, x51_195, x51_196, x51_199, x51_201, x51_202, x51_203, x51_204, x51_207, x51_210, x51_211, x51_212, x51_215, x51_216, x51_217, x51_220, x51_221, x51_222, x51_223, x51_226, x51_229, x51_232, x51_235, fcn_0_44, fcn_0_46, fcn_0_48, fcn_0_49, fcn_0_59, fcn_0_60, fcn_0_64, if_true, if_false, eq_self, Int.reduceEq, Int.reduceLT, Int.reduceLE, Int.reduceAdd, Int.reduceSub, Int.reduceMul, Int.reduceToNat, Nat.reduceAdd, Nat.reduceMul, Nat.reduceEqDiff, Int.toNat_natCast, wrap_id, l1, if_pos hlt, e1, z6, hb, k0 hk]
      · have hf : dn.testBit h = false := by
          cases hq : dn.testBit h with
          | true => exact absurd ((z63 h (by omega)).mp hq) hd
          | false => rfl
        rw [hf] at hb
        have hb : iand (ishr dn h) 1 = 0 := hb
        refine next true ⟨fun _ z => absurd z hd, fun _ => rfl⟩ ?_
        rw [eh, x51_120, show b2i true = 1 from rfl]
        simp (disch := first | exact obC_0 | omega | (simp only [aN1_35, aN1_37, aN1_39, aN1_40, aN1_44, aN1_45, aN2_49]; omega) | (simp only [List.length_cons, List.length_nil]; omega)) only [en51, x51_0, x51_1, x51_2, x51_3, x51_5, x51_6, x51_9, x51_12, x51_13, x51_16, x51_18, x51_19, x51_20, x51_21, x51_22, x51_23, x51_26, x51_27, x51_28, x51_29, x51_32, x51_33, x51_34, x51_37, x51_38, x51_41, x51_43, x51_44, x51_45, x51_46, x51_49, x51_50, x51_53, x51_54, x51_55, x51_56, x51_59, x51_60, x51_61, x51_64, x51_65, x51_68, x51_69, x51_70, x51_73, x51_74, x51_75, x51_76, x51_79, x51_82, x51_85, x51_89, x51_92, x51_93, x51_95, x51_96, x51_99, x51_102, x51_103, x51_106, x51_107, x51_108, x51_111, x51_112, x51_115, x51_116, x51_117, x51_118, x51_122, x51_123, x51_126, x51_129, x51_130, x51_133, x51_134, x51_137, x51_139, x51_140, x51_141, x51_142, x51_144, x51_145, x51_146, x51_147, x51_148, x51_151, x51_152, x51_155, x51_157, x51_158, x51_161, x51_162, x51_163, x51_166, x51_169, x51_170, x51_173, x51_176, x51_177, x51_180, x51_181, x51_182, x51_185, x51_187, x51_188, x51_189, x51_190, x51_191, x51_194, x51_195, x51_196, x51_199, x51_201, x51_202, x51_203, x51_204, x51_207, x51_210, x51_211, x51_212, x51_215, x51_216, x51_217, x51_220, x51_221, x51_222, x51_223, x51_226, x51_229, x51_232, x51_235, fcn_0_44, fcn_0_46, fcn_0_48, fcn_0_49, fcn_0_59, fcn_0_60, fcn_0_64, if_true, if_false, eq_self, Int.reduceEq, Int.reduceLT, Int.reduceLE, Int.reduceAdd, Int.reduceSub, Int.reduceMul, Int.reduceToNat, Nat.reduceAdd, Nat.reduceMul, Nat.reduceEqDiff, Int.toNat_natCast, wrap_id, l1, if_pos hlt, e1, z6, hb]
