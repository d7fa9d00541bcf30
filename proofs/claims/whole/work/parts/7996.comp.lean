theorem t_fail {d : Nat} (hd : 1 ≤ d) (s : Mem) (c : Int) : Zc d 2 [aR 0, aI c] s = rI 0 (mu s 0 4 c) := by
  obtain ⟨d, rfl⟩ : ∃ e, d = e + 1 := ⟨d - 1, by omega⟩
  simp (disch := first | exact obC_0 | omega | (simp only [List.length_cons, List.length_nil]; omega)) only [en2, x2_0, x2_1, x2_2, x2_5, x2_6, if_true, if_false, eq_self, Int.reduceEq, Int.reduceLT, Int.reduceLE, Int.reduceAdd, Int.reduceSub, Int.reduceMul, Int.reduceToNat, Nat.reduceAdd, Nat.reduceMul, Nat.reduceEqDiff, Int.toNat_natCast, wrap_id]
/-- a sink that is not connected on every path -/
def unset (sg : List Sg) (lo : List Lo) (g : Nat) : Prop := ∃ x, sg[g]? = some x ∧ isSk x.1 x.2.2.1 ∧ x.1 ≠ 3 ∧ ini (lwF g lo .null []) = false
/-- the state while the sinks are looked at -/
def CB (s : Mem) (sg : List Sg) (lo : List Lo) : Prop :=
  s 0 50 = sg.length ∧ sg.length ≤ 24 ∧ s 0 57 = lo.length ∧ lo.length ≤ 1100 ∧ LR s lo ∧ (∀ (g : Nat) (x : Sg), sg[g]? = some x → s 35 g = x.1 ∧ s 37 g = x.2.2.1 ∧ ((x.1 = 4 ∧ ∃ n : Nat, s 39 g = n ∧ RR s x.2.2.2.2 n ∧ n + esz x.2.2.2.2 ≤ 220) ∨ (x.1 ≠ 4 ∧ s 39 g = -1)))
theorem CB_put {s s' : Mem} {sg : List Sg} {lo : List Lo} (g : ∀ k j, k ≤ 49 → k ≠ 40 → s' k j = s k j) (h : CB s sg lo) : CB s' sg lo := by
  obtain ⟨h1, h2, h3, h4, h5, h6⟩ := h
  have A : AR s s' 0 220 := fun k j hk _ _ => g k j (by omega) (by omega)
  refine ⟨by rw [g _ _ (by decide) (by decide), h1], h2, by rw [g _ _ (by decide) (by decide), h3], h4, fun j x hx => ?_, fun j x hx => ?_⟩
  · obtain ⟨y1, y2, y3⟩ := h5 j x hx
    exact ⟨by rw [g _ _ (by decide) (by decide), y1], fun z => ⟨by rw [g _ _ (by decide) (by decide)]; exact (y2 z).1, by rw [g _ _ (by decide) (by decide)]; exact SRC_put (Nat.le_refl _) A (y2 z).2⟩, fun z => by
      obtain ⟨n, z1, z2, z3⟩ := y3 z
      exact ⟨n, by rw [g _ _ (by decide) (by decide), z1], RR_low A z2 z3, z3⟩⟩
  · rw [g _ _ (by decide) (by decide), g _ _ (by decide) (by decide), g _ _ (by decide) (by decide)]
    obtain ⟨y1, y2, y3⟩ := h6 j x hx
    exact ⟨y1, y2, y3.imp (fun ⟨z, n, z1, z2, z3⟩ => ⟨z, n, z1, RR_low A z2 z3, z3⟩) id⟩
theorem cp_init {d : Nat} {sg : List Sg} {lo : List Lo} (hd : 1 ≤ d) (h0 : src0 lo) (hw : wfL 0 lo) (l1 l2 : AV) : ∀ (m g : Nat) (s : Mem) (l4 : AV), g + m = sg.length → CB s sg lo →
    (∃ s' l4', Ze d 46 65 [aR 0, l1, l2, aI g, l4] [] s = Ze d 46 133 [aR 0, l1, l2, aI 0, l4'] [] s' ∧ (∀ j, g ≤ j → j < sg.length → ¬ unset sg lo j) ∧ Fr FSA s s') ∨
    (∃ s' k, Ze d 46 65 [aR 0, l1, l2, aI g, l4] [] s = rI 0 (mu (mu s' 0 3 (k : Nat)) 0 4 4) ∧ g ≤ k ∧ k < sg.length ∧ unset sg lo k ∧ (∀ j, g ≤ j → j < k → ¬ unset sg lo j) ∧ Fr FSA s s') := by
  intro m
  induction m with
  | zero =>
    intro g s l4 hg hC
    refine Or.inl ⟨s, l4, ?_, fun j h1 h2 => by omega, Fr.rf s⟩
    rw [x46_65]
    simp (disch := first | exact obC_0 | omega | (simp only [aN1_35, aN1_40]; omega) | (simp only [List.length_cons, List.length_nil]; omega)) only [en46, x46_0, x46_1, x46_3, x46_6, x46_7, x46_10, x46_11, x46_14, x46_17, x46_18, x46_19, x46_22, x46_23, x46_24, x46_27, x46_28, x46_29, x46_32, x46_33, x46_34, x46_37, x46_38, x46_39, x46_42, x46_43, x46_44, x46_47, x46_48, x46_49, x46_52, x46_53, x46_54, x46_57, x46_58, x46_59, x46_62, x46_63, x46_64, x46_66, x46_67, x46_70, x46_73, x46_74, x46_75, x46_78, x46_81, x46_82, x46_85, x46_86, x46_87, x46_88, x46_91, x46_92, x46_93, x46_96, x46_99, x46_100, x46_103, x46_104, x46_106, x46_108, x46_111, x46_114, x46_115, x46_116, x46_119, x46_120, x46_121, x46_124, x46_125, x46_128, x46_131, x46_132, x46_134, x46_135, x46_138, x46_141, x46_142, x46_145, x46_146, x46_147, x46_148, x46_151, x46_154, x46_155, x46_158, x46_159, x46_160, x46_161, x46_164, x46_165, x46_166, x46_169, x46_172, x46_173, x46_174, x46_177, x46_180, x46_181, x46_184, x46_185, x46_186, x46_189, x46_190, x46_191, x46_194, x46_195, x46_196, x46_199, x46_200, x46_201, x46_202, x46_205, x46_206, x46_209, x46_210, x46_213, x46_214, x46_217, fcn_0_44, fcn_0_49, if_true, if_false, eq_self, Int.reduceEq, Int.reduceLT, Int.reduceLE, Int.reduceAdd, Int.reduceSub, Int.reduceMul, Int.reduceToNat, Nat.reduceAdd, Nat.reduceMul, Nat.reduceEqDiff, Int.toNat_natCast, wrap_id, hC.1, if_neg (show ¬ (g : Int) < sg.length by omega)]
  | succ m ih =>
    intro g s l4 hg hC
    have hC' := hC
    obtain ⟨c1, c2, c3, c4, c5, c6⟩ := hC
    have hgl : g < sg.length := by omega
    have hlt : (g : Int) < sg.length := by omega
    have eg : ((g + 1 : Nat) : Int) = (g : Int) + 1 := by omega
    obtain ⟨x, hx⟩ : ∃ x, sg[g]? = some x := ⟨_, List.getElem?_eq_getElem hgl⟩
    obtain ⟨y1, y2, y3⟩ := c6 g x hx
    obtain ⟨i1, i0⟩ := t_isSink (d := d) hd s (g := g) (by omega) y1 y2
    have next : ∀ (s1 : Mem) (l4' : AV), ¬ unset sg lo g → Ze d 46 65 [aR 0, l1, l2, aI g, l4] [] s = Ze d 46 65 [aR 0, l1, l2, aI ((g + 1 : Nat) : Int), l4'] [] s1 → Fr FSA s s1 → (∃ s' l4', Ze d 46 65 [aR 0, l1, l2, aI g, l4] [] s = Ze d 46 133 [aR 0, l1, l2, aI 0, l4'] [] s' ∧ (∀ j, g ≤ j → j < sg.length → ¬ unset sg lo j) ∧ Fr FSA s s') ∨
    (∃ s' k, Ze d 46 65 [aR 0, l1, l2, aI g, l4] [] s = rI 0 (mu (mu s' 0 3 (k : Nat)) 0 4 4) ∧ g ≤ k ∧ k < sg.length ∧ unset sg lo k ∧ (∀ j, g ≤ j → j < k → ¬ unset sg lo j) ∧ Fr FSA s s') := by
      intro s1 l4' hu hz hf
      have ext : ∀ j, g ≤ j → (g + 1 ≤ j → ¬ unset sg lo j) → ¬ unset sg lo j := fun j h1 h2 => by
        by_cases hjg : j = g
        · rw [hjg]; exact hu
        · exact h2 (by omega)
      rcases ih (g + 1) s1 l4' (by omega) (CB_put (fun k j hk _ => hf _ _ (by unfold FSA; omega)) hC') with ⟨s', a, q1, q2, q3⟩ | ⟨s', k, q1, q2, q3, q4, q5, q6⟩
      · exact Or.inl ⟨s', a, hz.trans q1, fun j h1 h2 => ext j h1 (fun z => q2 j z h2), hf.tr q3⟩
      · exact Or.inr ⟨s', k, hz.trans q1, by omega, q3, q4, fun j h1 h2 => ext j h1 (fun z => q5 j z h2), hf.tr q6⟩
    by_cases hk : isSk x.1 x.2.2.1
    · by_cases h3 : x.1 = 3
      · have y1 : s 35 g = 3 := by rw [y1, h3]; rfl
        refine next s (aI 1) (fun ⟨y, hy, _, hy3, _⟩ => by rw [hx] at hy; cases hy; exact hy3 h3) ?_ (Fr.rf s)
        rw [eg, x46_65]
        simp (disch := first | exact obC_0 | omega | (simp only [aN1_35, aN1_40]; omega) | (simp only [List.length_cons, List.length_nil]; omega)) only [en46, x46_0, x46_1, x46_3, x46_6, x46_7, x46_10, x46_11, x46_14, x46_17, x46_18, x46_19, x46_22, x46_23, x46_24, x46_27, x46_28, x46_29, x46_32, x46_33, x46_34, x46_37, x46_38, x46_39, x46_42, x46_43, x46_44, x46_47, x46_48, x46_49, x46_52, x46_53, x46_54, x46_57, x46_58, x46_59, x46_62, x46_63, x46_64, x46_66, x46_67, x46_70, x46_73, x46_74, x46_75, x46_78, x46_81, x46_82, x46_85, x46_86, x46_87, x46_88, x46_91, x46_92, x46_93, x46_96, x46_99, x46_100, x46_103, x46_104, x46_106, x46_108, x46_111, x46_114, x46_115, x46_116, x46_119, x46_120, x46_121, x46_124, x46_125, x46_128, x46_131, x46_132, x46_134, x46_135, x46_138, x46_141, x46_142, x46_145, x46_146, x46_147, x46_148, x46_151, x46_154, x46_155, x46_158, x46_159, x46_160, x46_161, x46_164, x46_165, x46_166, x46_169, x46_172, x46_173, x46_174, x46_177, x46_180, x46_181, x46_184, x46_185, x46_186, x46_189, x46_190, x46_191, x46_194, x46_195, x46_196, x46_199, x46_200, x46_201, x46_202, x46_205, x46_206, x46_209, x46_210, x46_213, x46_214, x46_217, fcn_0_44, fcn_0_49, if_true, if_false, eq_self, Int.reduceEq, Int.reduceLT, Int.reduceLE, Int.reduceAdd, Int.reduceSub, Int.reduceMul, Int.reduceToNat, Nat.reduceAdd, Nat.reduceMul, Nat.reduceEqDiff, Int.toNat_natCast, wrap_id, c1, if_pos hlt, i1 hk, zcI_r, y1]
      · obtain ⟨s1, q1, q2⟩ := t_isInit (d := d) (g := g) hd c4 h0 c3 (fun j y hy => ⟨(c5 j y hy).1, fun z => ((c5 j y hy).2.1 z).1⟩) hw
        cases hi : ini (lwF g lo .null []) with
        | true =>
          rw [hi] at q1
          have q1 : Zc d 41 [aR 0, aI g] s = rI 1 s1 := q1
          refine next s1 (aI 1) (fun ⟨y, hy, _, _, hy4⟩ => by rw [hi] at hy4; exact (nomatch hy4)) ?_ q2
          rw [eg, x46_65]
          simp (disch := first | exact obC_0 | omega | (simp only [aN1_35, aN1_40]; omega) | (simp only [List.length_cons, List.length_nil]; omega)) only [en46, x46_0, x46_1, x46_3, x46_6, x46_7, x46_10, x46_11, x46_14, x46_17, x46_18, x46_19, x46_22, x46_23, x46_24, x46_27, x46_28, x46_29, x46_32, x46_33, x46_34, x46_37, x46_38, x46_39, x46_42, x46_43, x46_44, x46_47, x46_48, x46_49, x46_52, x46_53, x46_54, x46_57, x46_58, x46_59, x46_62, x46_63, x46_64, x46_66, x46_67, x46_70, x46_73, x46_74, x46_75, x46_78, x46_81, x46_82, x46_85, x46_86, x46_87, x46_88, x46_91, x46_92, x46_93, x46_96, x46_99, x46_100, x46_103, x46_104, x46_106, x46_108, x46_111, x46_114, x46_115, x46_116, x46_119, x46_120, x46_121, x46_124, x46_125, x46_128, x46_131, x46_132, x46_134, x46_135, x46_138, x46_141, x46_142, x46_145, x46_146, x46_147, x46_148, x46_151, x46_154, x46_155, x46_158, x46_159, x46_160, x46_161, x46_164, x46_165, x46_166, x46_169, x46_172, x46_173, x46_174, x46_177, x46_180, x46_181, x46_184, x46_185, x46_186, x46_189, x46_190, x46_191, x46_194, x46_195, x46_196, x46_199, x46_200, x46_201, x46_202, x46_205, x46_206, x46_209, x46_210, x46_213, x46_214, x46_217, fcn_0_44, fcn_0_49, if_true, if_false, eq_self, Int.reduceEq, Int.reduceLT, Int.reduceLE, Int.reduceAdd, Int.reduceSub, Int.reduceMul, Int.reduceToNat, Nat.reduceAdd, Nat.reduceMul, Nat.reduceEqDiff, Int.toNat_natCast, wrap_id, c1, if_pos hlt, i1 hk, zcI_r, y1, if_neg (show ¬ (x.1 : Int) = 3 by omega), q1]
        | false =>
          rw [hi] at q1
          have q1 : Zc d 41 [aR 0, aI g] s = rI 0 s1 := q1
          refine Or.inr ⟨s1, g, ?_, Nat.le_refl _, hgl, ⟨x, hx, hk, h3, hi⟩, fun j h1 h2 => by omega, q2⟩
          rw [x46_65]
          simp (disch := first | exact obC_0 | omega | (simp only [aN1_35, aN1_40]; omega) | (simp only [List.length_cons, List.length_nil]; omega)) only [en46, x46_0, x46_1, x46_3, x46_6, x46_7, x46_10, x46_11, x46_14, x46_17, x46_18, x46_19, x46_22, x46_23, x46_24, x46_27, x46_28, x46_29, x46_32, x46_33, x46_34, x46_37, x46_38, x46_39, x46_42, x46_43, x46_44, x46_47, x46_48, x46_49, x46_52, x46_53, x46_54, x46_57, x46_58, x46_59, x46_62, x46_63, x46_64, x46_66, x46_67, x46_70, x46_73, x46_74, x46_75, x46_78, x46_81, x46_82, x46_85, x46_86, x46_87, x46_88, x46_91, x46_92, x46_93, x46_96, x46_99, x46_100, x46_103, x46_104, x46_106, x46_108, x46_111, x46_114, x46_115, x46_116, x46_119, x46_120, x46_121, x46_124, x46_125, x46_128, x46_131, x46_132, x46_134, x46_135, x46_138, x46_141, x46_142, x46_145, x46_146, x46_147, x46_148, x46_151, x46_154, x46_155, x46_158, x46_159, x46_160, x46_161, x46_164, x46_165, x46_166, x46_169, x46_172, x46_173, x46_174, x46_177, x46_180, x46_181, x46_184, x46_185, x46_186, x46_189, x46_190, x46_191, x46_194, x46_195, x46_196, x46_199, x46_200, x46_201, x46_202, x46_205, x46_206, x46_209, x46_210, x46_213, x46_214, x46_217, fcn_0_44, fcn_0_49, if_true, if_false, eq_self, Int.reduceEq, Int.reduceLT, Int.reduceLE, Int.reduceAdd, Int.reduceSub, Int.reduceMul, Int.reduceToNat, Nat.reduceAdd, Nat.reduceMul, Nat.reduceEqDiff, Int.toNat_natCast, wrap_id, c1, if_pos hlt, i1 hk, zcI_r, y1, if_neg (show ¬ (x.1 : Int) = 3 by omega), q1, t_fail (d := d) hd]
    · refine next s (aI 1) (fun ⟨y, hy, hyk, _⟩ => by rw [hx] at hy; cases hy; exact hk hyk) ?_ (Fr.rf s)
      rw [eg, x46_65]
      simp (disch := first | exact obC_0 | omega | (simp only [aN1_35, aN1_40]; omega) | (simp only [List.length_cons, List.length_nil]; omega)) only [en46, x46_0, x46_1, x46_3, x46_6, x46_7, x46_10, x46_11, x46_14, x46_17, x46_18, x46_19, x46_22, x46_23, x46_24, x46_27, x46_28, x46_29, x46_32, x46_33, x46_34, x46_37, x46_38, x46_39, x46_42, x46_43, x46_44, x46_47, x46_48, x46_49, x46_52, x46_53, x46_54, x46_57, x46_58, x46_59, x46_62, x46_63, x46_64, x46_66, x46_67, x46_70, x46_73, x46_74, x46_75, x46_78, x46_81, x46_82, x46_85, x46_86, x46_87, x46_88, x46_91, x46_92, x46_93, x46_96, x46_99, x46_100, x46_103, x46_104, x46_106, x46_108, x46_111, x46_114, x46_115, x46_116, x46_119, x46_120, x46_121, x46_124, x46_125, x46_128, x46_131, x46_132, x46_134, x46_135, x46_138, x46_141, x46_142, x46_145, x46_146, x46_147, x46_148, x46_151, x46_154, x46_155, x46_158, x46_159, x46_160, x46_161, x46_164, x46_165, x46_166, x46_169, x46_172, x46_173, x46_174, x46_177, x46_180, x46_181, x46_184, x46_185, x46_186, x46_189, x46_190, x46_191, x46_194, x46_195, x46_196, x46_199, x46_200, x46_201, x46_202, x46_205, x46_206, x46_209, x46_210, x46_213, x46_214, x46_217, fcn_0_44, fcn_0_49, if_true, if_false, eq_self, Int.reduceEq, Int.reduceLT, Int.reduceLE, Int.reduceAdd, Int.reduceSub, Int.reduceMul, Int.reduceToNat, Nat.reduceAdd, Nat.reduceMul, Nat.reduceEqDiff, Int.toNat_natCast, wrap_id, c1, if_pos hlt, i0 hk, zcI_r]
def FDp (k j : Nat) : Prop := FK k j ∨ (k = 40 ∧ j < 24)
theorem cp_dep {d : Nat} {sg : List Sg} {lo : List Lo} (hd : 2 ≤ d) (hw : wfL 0 lo) (l1 l2 l4 : AV) : ∀ (m g : Nat) (s : Mem), g + m = sg.length → CB s sg lo →
    ∃ s', Ze d 46 133 [aR 0, l1, l2, aI g, l4] [] s = Ze d 46 180 [aR 0, l1, l2, aI sg.length, l4] [] s' ∧ (∀ j, g ≤ j → j < sg.length → BT (s' 40 j) (dpd sg lo j)) ∧ (∀ j, j < g → s' 40 j = s 40 j) ∧ Fr FDp s s' := by
  intro m
  induction m with
  | zero =>
    intro g s hg hC
    refine ⟨s, ?_, fun j h1 h2 => by omega, fun _ _ => rfl, Fr.rf s⟩
    rw [show g = sg.length by omega, x46_133]
    simp (disch := first | exact obC_0 | omega | (simp only [aN1_35, aN1_40]; omega) | (simp only [List.length_cons, List.length_nil]; omega)) only [en46, x46_0, x46_1, x46_3, x46_6, x46_7, x46_10, x46_11, x46_14, x46_17, x46_18, x46_19, x46_22, x46_23, x46_24, x46_27, x46_28, x46_29, x46_32, x46_33, x46_34, x46_37, x46_38, x46_39, x46_42, x46_43, x46_44, x46_47, x46_48, x46_49, x46_52, x46_53, x46_54, x46_57, x46_58, x46_59, x46_62, x46_63, x46_64, x46_66, x46_67, x46_70, x46_73, x46_74, x46_75, x46_78, x46_81, x46_82, x46_85, x46_86, x46_87, x46_88, x46_91, x46_92, x46_93, x46_96, x46_99, x46_100, x46_103, x46_104, x46_106, x46_108, x46_111, x46_114, x46_115, x46_116, x46_119, x46_120, x46_121, x46_124, x46_125, x46_128, x46_131, x46_132, x46_134, x46_135, x46_138, x46_141, x46_142, x46_145, x46_146, x46_147, x46_148, x46_151, x46_154, x46_155, x46_158, x46_159, x46_160, x46_161, x46_164, x46_165, x46_166, x46_169, x46_172, x46_173, x46_174, x46_177, x46_181, x46_184, x46_185, x46_186, x46_189, x46_190, x46_191, x46_194, x46_195, x46_196, x46_199, x46_200, x46_201, x46_202, x46_205, x46_206, x46_209, x46_210, x46_213, x46_214, x46_217, fcn_0_44, fcn_0_49, if_true, if_false, eq_self, Int.reduceEq, Int.reduceLT, Int.reduceLE, Int.reduceAdd, Int.reduceSub, Int.reduceMul, Int.reduceToNat, Nat.reduceAdd, Nat.reduceMul, Nat.reduceEqDiff, Int.toNat_natCast, wrap_id, hC.1, if_neg (show ¬ (sg.length : Int) < sg.length by omega)]
  | succ m ih =>
    intro g s hg hC
    have hC' := hC
    obtain ⟨c1, c2, c3, c4, c5, c6⟩ := hC
    have hgl : g < sg.length := by omega
    have hlt : (g : Int) < sg.length := by omega
    have eg : ((g + 1 : Nat) : Int) = (g : Int) + 1 := by omega
    obtain ⟨x, hx⟩ : ∃ x, sg[g]? = some x := ⟨_, List.getElem?_eq_getElem hgl⟩
    obtain ⟨y1, y2, y3⟩ := c6 g x hx
    obtain ⟨i1, i0⟩ := t_isSink (d := d) (by omega) s (g := g) (by omega) y1 y2
    obtain ⟨s0, v, hz, hv, hf0⟩ : ∃ s0 v, Ze d 46 133 [aR 0, l1, l2, aI g, l4] [] s = Ze d 46 133 [aR 0, l1, l2, aI ((g + 1 : Nat) : Int), l4] [] (mu s0 40 g v) ∧ BT v (dpd sg lo g) ∧ Fr FK s s0 := by
      obtain ⟨s0, v, q1, q2, q3⟩ := t_depends (d := d) hd (show g < 24 by omega) hx c4 c3 c5 hw y1 y3
      by_cases hk : isSk x.1 x.2.2.1
      · refine ⟨s0, v, ?_, BT_iff q2 (fun h _ => ⟨fun z => ⟨x, hx, Or.inl hk, z⟩, fun ⟨y, _, _, z⟩ => z⟩), q3⟩
        rw [eg, x46_133]
        simp (disch := first | exact obC_0 | omega | (simp only [aN1_35, aN1_40]; omega) | (simp only [List.length_cons, List.length_nil]; omega)) only [en46, x46_0, x46_1, x46_3, x46_6, x46_7, x46_10, x46_11, x46_14, x46_17, x46_18, x46_19, x46_22, x46_23, x46_24, x46_27, x46_28, x46_29, x46_32, x46_33, x46_34, x46_37, x46_38, x46_39, x46_42, x46_43, x46_44, x46_47, x46_48, x46_49, x46_52, x46_53, x46_54, x46_57, x46_58, x46_59, x46_62, x46_63, x46_64, x46_66, x46_67, x46_70, x46_73, x46_74, x46_75, x46_78, x46_81, x46_82, x46_85, x46_86, x46_87, x46_88, x46_91, x46_92, x46_93, x46_96, x46_99, x46_100, x46_103, x46_104, x46_106, x46_108, x46_111, x46_114, x46_115, x46_116, x46_119, x46_120, x46_121, x46_124, x46_125, x46_128, x46_131, x46_132, x46_134, x46_135, x46_138, x46_141, x46_142, x46_145, x46_146, x46_147, x46_148, x46_151, x46_154, x46_155, x46_158, x46_159, x46_160, x46_161, x46_164, x46_165, x46_166, x46_169, x46_172, x46_173, x46_174, x46_177, x46_180, x46_181, x46_184, x46_185, x46_186, x46_189, x46_190, x46_191, x46_194, x46_195, x46_196, x46_199, x46_200, x46_201, x46_202, x46_205, x46_206, x46_209, x46_210, x46_213, x46_214, x46_217, fcn_0_44, fcn_0_49, if_true, if_false, eq_self, Int.reduceEq, Int.reduceLT, Int.reduceLE, Int.reduceAdd, Int.reduceSub, Int.reduceMul, Int.reduceToNat, Nat.reduceAdd, Nat.reduceMul, Nat.reduceEqDiff, Int.toNat_natCast, wrap_id, c1, if_pos hlt, i1 hk, zcI_r, q1]
      · by_cases h4 : x.1 = 4
        · have y1 : s 35 g = 4 := by rw [y1, h4]; rfl
          refine ⟨s0, v, ?_, BT_iff q2 (fun h _ => ⟨fun z => ⟨x, hx, Or.inr h4, z⟩, fun ⟨y, _, _, z⟩ => z⟩), q3⟩
          rw [eg, x46_133]
          simp (disch := first | exact obC_0 | omega | (simp only [aN1_35, aN1_40]; omega) | (simp only [List.length_cons, List.length_nil]; omega)) only [en46, x46_0, x46_1, x46_3, x46_6, x46_7, x46_10, x46_11, x46_14, x46_17, x46_18, x46_19, x46_22, x46_23, x46_24, x46_27, x46_28, x46_29, x46_32, x46_33, x46_34, x46_37, x46_38, x46_39, x46_42, x46_43, x46_44, x46_47, x46_48, x46_49, x46_52, x46_53, x46_54, x46_57, x46_58, x46_59, x46_62, x46_63, x46_64, x46_66, x46_67, x46_70, x46_73, x46_74, x46_75, x46_78, x46_81, x46_82, x46_85, x46_86, x46_87, x46_88, x46_91, x46_92, x46_93, x46_96, x46_99, x46_100, x46_103, x46_104, x46_106, x46_108, x46_111, x46_114, x46_115, x46_116, x46_119, x46_120, x46_121, x46_124, x46_125, x46_128, x46_131, x46_132, x46_134, x46_135, x46_138, x46_141, x46_142, x46_145, x46_146, x46_147, x46_148, x46_151, x46_154, x46_155, x46_158, x46_159, x46_160, x46_161, x46_164, x46_165, x46_166, x46_169, x46_172, x46_173, x46_174, x46_177, x46_180, x46_181, x46_184, x46_185, x46_186, x46_189, x46_190, x46_191, x46_194, x46_195, x46_196, x46_199, x46_200, x46_201, x46_202, x46_205, x46_206, x46_209, x46_210, x46_213, x46_214, x46_217, fcn_0_44, fcn_0_49, if_true, if_false, eq_self, Int.reduceEq, Int.reduceLT, Int.reduceLE, Int.reduceAdd, Int.reduceSub, Int.reduceMul, Int.reduceToNat, Nat.reduceAdd, Nat.reduceMul, Nat.reduceEqDiff, Int.toNat_natCast, wrap_id, c1, if_pos hlt, i0 hk, zcI_r, y1, q1]
        · refine ⟨s, 0, ?_, BT_iff BT_0 (fun h _ => ⟨fun z => z.elim, fun ⟨y, hy, z, _⟩ => by rw [hx] at hy; cases hy; exact z.elim hk h4⟩), Fr.rf s⟩
          rw [eg, x46_133]
          simp (disch := first | exact obC_0 | omega | (simp only [aN1_35, aN1_40]; omega) | (simp only [List.length_cons, List.length_nil]; omega)) only [en46, x46_0, x46_1, x46_3, x46_6, x46_7, x46_10, x46_11, x46_14, x46_17, x46_18, x46_19, x46_22, x46_23, x46_24, x46_27, x46_28, x46_29, x46_32, x46_33, x46_34, x46_37, x46_38, x46_39, x46_42, x46_43, x46_44, x46_47, x46_48, x46_49, x46_52, x46_53, x46_54, x46_57, x46_58, x46_59, x46_62, x46_63, x46_64, x46_66, x46_67, x46_70, x46_73, x46_74, x46_75, x46_78, x46_81, x46_82, x46_85, x46_86, x46_87, x46_88, x46_91, x46_92, x46_93, x46_96, x46_99, x46_100, x46_103, x46_104, x46_106, x46_108, x46_111, x46_114, x46_115, x46_116, x46_119, x46_120, x46_121, x46_124, x46_125, x46_128, x46_131, x46_132, x46_134, x46_135, x46_138, x46_141, x46_142, x46_145, x46_146, x46_147, x46_148, x46_151, x46_154, x46_155, x46_158, x46_159, x46_160, x46_161, x46_164, x46_165, x46_166, x46_169, x46_172, x46_173, x46_174, x46_177, x46_180, x46_181, x46_184, x46_185, x46_186, x46_189, x46_190, x46_191, x46_194, x46_195, x46_196, x46_199, x46_200, x46_201, x46_202, x46_205, x46_206, x46_209, x46_210, x46_213, x46_214, x46_217, fcn_0_44, fcn_0_49, if_true, if_false, eq_self, Int.reduceEq, Int.reduceLT, Int.reduceLE, Int.reduceAdd, Int.reduceSub, Int.reduceMul, Int.reduceToNat, Nat.reduceAdd, Nat.reduceMul, Nat.reduceEqDiff, Int.toNat_natCast, wrap_id, c1, if_pos hlt, i0 hk, zcI_r, y1, if_neg (show ¬ (x.1 : Int) = 4 by omega)]
    have F1 : Fr FDp s (mu s0 40 g v) := Fr.mu (S := FDp) (hf0.mono (fun _ _ z => Or.inl z)) (Or.inr ⟨rfl, by omega⟩)
    obtain ⟨s', p1, p2, p3, p4⟩ := ih (g + 1) (mu s0 40 g v) (by omega) (CB_put (fun k j hk hk2 => F1 _ _ (by unfold FDp FK; omega)) hC')
    refine ⟨s', hz.trans p1, fun j h1 h2 => ?_, fun j hj => ?_, F1.tr p4⟩
    · by_cases hjg : j = g
      · rw [hjg, p3 g (Nat.lt_succ_self _), mu_s]
        exact hv
      · exact p2 j (by omega) h2
    · rw [p3 j (by omega), mu_i (by omega), hf0 _ _ (by unfold FK; omega)]
