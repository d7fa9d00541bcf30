def FK (k _j : Nat) : Prop := k = 52 ∨ k = 53 ∨ k = 54 ∨ k = 55
theorem FK_k {s s' : Mem} {k j : Nat} (f : Fr FK s s') (h : k ≤ 51) : s' k j = s k j := f _ _ (by unfold FK; omega)
/-- the reference's kept, keptThen, keptWhen and touched, from the innermost open ? outwards -/
def KT (s : Mem) : List Fm → Prop
  | [] => True
  | f :: st => BT (s 53 st.length) (fun h => occ h f.1) ∧ BT (s 54 st.length) (fun h => occ h (match f.2.1 with | none => f.1 | some t => t)) ∧ (∃ n : Nat, s 55 st.length = n ∧ RR s f.2.2.1 n ∧ n + esz f.2.2.1 ≤ 220) ∧ s 52 st.length = b2i f.2.2.2 ∧ KT s st
theorem KT_put {s s' : Mem} : ∀ {st : List Fm}, (∀ k j, 12 ≤ k ∧ k ≤ 18 → s' k j = s k j) → (∀ k j, FK k j → j < st.length → s' k j = s k j) → KT s st → KT s' st
  | [], _, _, _ => trivial
  | f :: st, r, g, h => by
    obtain ⟨h1, h2, ⟨n, h3, h4, h5⟩, h6, h7⟩ := h
    have e : ∀ k, FK k st.length → s' k st.length = s k st.length := fun k hk => g k _ hk (Nat.lt_succ_self _)
    exact ⟨by rw [e _ (by unfold FK; decide)]; exact h1, by rw [e _ (by unfold FK; decide)]; exact h2, ⟨n, by rw [e _ (by unfold FK; decide)]; exact h3, RR_put h4 (fun k j hk _ _ => r k j hk), h5⟩, by rw [e _ (by unfold FK; decide)]; exact h6, KT_put r (fun k j hk hj => g k j hk (Nat.lt_succ_of_lt hj)) h7⟩
theorem KT_map {s s' : Mem} : ∀ {st : List Fm}, (∀ k j, k ≠ 52 → s' k j = s k j) → (∀ j, j < st.length → s' 52 j = 1) → KT s st → KT s' (st.map fmT)
  | [], _, _, _ => trivial
  | f :: st, r, g, h => by
    obtain ⟨h1, h2, ⟨n, h3, h4, h5⟩, h6, h7⟩ := h
    refine ⟨?_, ?_, ⟨n, ?_, RR_put h4 (fun k j hk _ _ => r k j (by omega)), h5⟩, ?_, KT_map r (fun j hj => g j (Nat.lt_succ_of_lt hj)) h7⟩
    · rw [List.length_map, r _ _ (by decide)]; exact h1
    · rw [List.length_map, r _ _ (by decide)]; exact h2
    · rw [List.length_map, r _ _ (by decide)]; exact h3
    · rw [List.length_map, g _ (Nat.lt_succ_self _)]; rfl
/-- all open ? are touched -/
theorem dp_mark {d g n k : Nat} {v : Int} {s0 : Mem} (hn : n ≤ 3) : ∀ (m i : Nat) (s : Mem), i + m = n → (∀ j, j < i → s 52 j = 1) → ∃ s' l5, Ze d 43 137 [aR 0, aI g, aI n, aI v, aI k, aI i] [] s = Ze d 43 253 [aR 0, aI g, aI n, aI v, aI k, l5] [] s' ∧ (∀ j, j < n → s' 52 j = 1) ∧ Fr (fun c _ => c = 52) s s' := by
  intro m
  induction m with
  | zero =>
    intro i s hi h
    refine ⟨s, aI i, ?_, fun j hj => h j (by omega), Fr.rf s⟩
    rw [x43_137]
    simp (disch := first | exact obC_0 | omega | (simp only [aN1_35, aN1_39, aN1_41, aN1_42, aN1_43, aN1_53, aN1_54, aN1_55, aN2_52]; omega) | (simp only [List.length_cons, List.length_nil]; omega)) only [en43, x43_0, x43_1, x43_4, x43_5, x43_6, x43_9, x43_10, x43_11, x43_14, x43_15, x43_16, x43_19, x43_20, x43_21, x43_22, x43_23, x43_26, x43_27, x43_28, x43_29, x43_32, x43_33, x43_34, x43_35, x43_38, x43_39, x43_40, x43_41, x43_45, x43_46, x43_49, x43_52, x43_53, x43_56, x43_58, x43_59, x43_84, x43_85, x43_88, x43_90, x43_91, x43_92, x43_95, x43_98, x43_99, x43_102, x43_104, x43_105, x43_108, x43_109, x43_110, x43_111, x43_114, x43_116, x43_117, x43_118, x43_119, x43_122, x43_123, x43_124, x43_127, x43_129, x43_130, x43_133, x43_134, x43_135, x43_139, x43_140, x43_143, x43_144, x43_147, x43_149, x43_150, x43_151, x43_154, x43_157, x43_160, x43_161, x43_164, x43_165, x43_166, x43_167, x43_168, x43_171, x43_172, x43_173, x43_174, x43_175, x43_178, x43_179, x43_180, x43_183, x43_185, x43_186, x43_187, x43_188, x43_191, x43_192, x43_193, x43_194, x43_197, x43_200, x43_201, x43_204, x43_205, x43_206, x43_207, x43_208, x43_209, x43_210, x43_213, x43_214, x43_215, x43_216, x43_217, x43_218, x43_221, x43_224, x43_225, x43_228, x43_229, x43_230, x43_233, x43_234, x43_235, x43_238, x43_239, x43_240, x43_241, x43_242, x43_243, x43_246, x43_247, x43_248, x43_251, x43_252, x43_256, x43_259, x43_260, fcn_0_44, fcn_0_48, fcn_0_54, fcn_0_55, fcn_0_56, fcn_0_67, fcn_0_68, fcn_0_69, fcn_0_70, if_true, if_false, eq_self, Int.reduceEq, Int.reduceLT, Int.reduceLE, Int.reduceAdd, Int.reduceSub, Int.reduceMul, Int.reduceToNat, Nat.reduceAdd, Nat.reduceMul, Nat.reduceEqDiff, Int.toNat_natCast, wrap_id, if_neg (show ¬ (i : Int) < n by omega)]
  | succ m ih =>
    intro i s hi h
    obtain ⟨s', l5, q1, q2, q3⟩ := ih (i + 1) (mu s 52 i 1) (by omega) (fun j hj => by
      by_cases hji : j = i
      · subst hji; exact mu_s
      · rw [mu_i hji]; exact h j (by omega))
    refine ⟨s', l5, Eq.trans ?_ q1, q2, Fr.tr (Fr.mu (S := fun c _ => c = 52) (Fr.rf s) rfl) q3⟩
    rw [show ((i + 1 : Nat) : Int) = (i : Int) + 1 by omega]
    rw [x43_137]
    simp (disch := first | exact obC_0 | omega | (simp only [aN1_35, aN1_39, aN1_41, aN1_42, aN1_43, aN1_53, aN1_54, aN1_55, aN2_52]; omega) | (simp only [List.length_cons, List.length_nil]; omega)) only [en43, x43_0, x43_1, x43_4, x43_5, x43_6, x43_9, x43_10, x43_11, x43_14, x43_15, x43_16, x43_19, x43_20, x43_21, x43_22, x43_23, x43_26, x43_27, x43_28, x43_29, x43_32, x43_33, x43_34, x43_35, x43_38, x43_39, x43_40, x43_41, x43_45, x43_46, x43_49, x43_52, x43_53, x43_56, x43_58, x43_59, x43_84, x43_85, x43_88, x43_90, x43_91, x43_92, x43_95, x43_98, x43_99, x43_102, x43_104, x43_105, x43_108, x43_109, x43_110, x43_111, x43_114, x43_116, x43_117, x43_118, x43_119, x43_122, x43_123, x43_124, x43_127, x43_129, x43_130, x43_133, x43_134, x43_135, x43_139, x43_140, x43_143, x43_144, x43_147, x43_149, x43_150, x43_151, x43_154, x43_157, x43_160, x43_161, x43_164, x43_165, x43_166, x43_167, x43_168, x43_171, x43_172, x43_173, x43_174, x43_175, x43_178, x43_179, x43_180, x43_183, x43_185, x43_186, x43_187, x43_188, x43_191, x43_192, x43_193, x43_194, x43_197, x43_200, x43_201, x43_204, x43_205, x43_206, x43_207, x43_208, x43_209, x43_210, x43_213, x43_214, x43_215, x43_216, x43_217, x43_218, x43_221, x43_224, x43_225, x43_228, x43_229, x43_230, x43_233, x43_234, x43_235, x43_238, x43_239, x43_240, x43_241, x43_242, x43_243, x43_246, x43_247, x43_248, x43_251, x43_252, x43_253, x43_256, x43_259, x43_260, fcn_0_44, fcn_0_48, fcn_0_54, fcn_0_55, fcn_0_56, fcn_0_67, fcn_0_68, fcn_0_69, fcn_0_70, if_true, if_false, eq_self, Int.reduceEq, Int.reduceLT, Int.reduceLE, Int.reduceAdd, Int.reduceSub, Int.reduceMul, Int.reduceToNat, Nat.reduceAdd, Nat.reduceMul, Nat.reduceEqDiff, Int.toNat_natCast, wrap_id, if_pos (show (i : Int) < n by omega)]
/-- how the reference has the steps, as far as they are read here -/
def LR (s : Mem) (lo : List Lo) : Prop := ∀ (j : Nat) (x : Lo), lo[j]? = some x → s 41 j = x.1 ∧ (x.1 = 0 → s 42 j = x.2.1 ∧ SRC s 220 x.2.2 (s 43 j)) ∧ (x.1 = 1 → ∃ n : Nat, s 43 j = n ∧ RR s x.2.2 n ∧ n + esz x.2.2 ≤ 220)
theorem LR_put {s s' : Mem} {lo : List Lo} (g : ∀ k j, k ≤ 49 → s' k j = s k j) (h : LR s lo) : LR s' lo := fun j x hx => by
  obtain ⟨h1, h2, h3⟩ := h j x hx
  have A : AR s s' 0 220 := fun k j hk _ _ => g k j (by omega)
  exact ⟨by rw [g _ _ (by decide), h1], fun z => ⟨by rw [g _ _ (by decide)]; exact (h2 z).1, by rw [g _ _ (by decide)]; exact SRC_put (Nat.le_refl _) A (h2 z).2⟩, fun z => by
    obtain ⟨n, z1, z2, z3⟩ := h3 z
    exact ⟨n, by rw [g _ _ (by decide), z1], RR_low A z2 z3, z3⟩⟩
theorem dp_loop {d g : Nat} {lo : List Lo} (hd : 1 ≤ d) (hl2 : lo.length ≤ 1100) : ∀ (m k : Nat) (now : Jvm.Term) (v : Int) (st : List Fm) (s : Mem) (l5 : AV), k + m = lo.length → s 0 57 = lo.length → LR s lo → wfL st.length (lo.drop k) → st.length ≤ 3 → KT s st → BT v (fun h => occ h now) →
    ∃ s' v', Ze d 43 43 [aR 0, aI g, aI st.length, aI v, aI k, l5] [] s = rI v' s' ∧ BT v' (fun h => occ h (lwF g (lo.drop k) now st)) ∧ Fr FK s s' := by
  intro m
  induction m with
  | zero =>
    intro k now v st s l5 hk hs hlo hw h3 hKT hv
    have hd : lo.drop k = [] := List.drop_eq_nil_of_le (by omega)
    refine ⟨s, v, ?_, ?_, Fr.rf s⟩
    · rw [x43_43]
      simp (disch := first | exact obC_0 | omega | (simp only [aN1_35, aN1_39, aN1_41, aN1_42, aN1_43, aN1_53, aN1_54, aN1_55, aN2_52]; omega) | (simp only [List.length_cons, List.length_nil]; omega)) only [en43, x43_0, x43_1, x43_4, x43_5, x43_6, x43_9, x43_10, x43_11, x43_14, x43_15, x43_16, x43_19, x43_20, x43_21, x43_22, x43_23, x43_26, x43_27, x43_28, x43_29, x43_32, x43_33, x43_34, x43_35, x43_38, x43_39, x43_40, x43_41, x43_45, x43_46, x43_49, x43_52, x43_53, x43_56, x43_58, x43_59, x43_84, x43_85, x43_88, x43_90, x43_91, x43_92, x43_95, x43_98, x43_99, x43_102, x43_104, x43_105, x43_108, x43_109, x43_110, x43_111, x43_114, x43_116, x43_117, x43_118, x43_119, x43_122, x43_123, x43_124, x43_127, x43_129, x43_130, x43_133, x43_134, x43_135, x43_139, x43_140, x43_143, x43_144, x43_147, x43_149, x43_150, x43_151, x43_154, x43_157, x43_160, x43_161, x43_164, x43_165, x43_166, x43_167, x43_168, x43_171, x43_172, x43_173, x43_174, x43_175, x43_178, x43_179, x43_180, x43_183, x43_185, x43_186, x43_187, x43_188, x43_191, x43_192, x43_193, x43_194, x43_197, x43_200, x43_201, x43_204, x43_205, x43_206, x43_207, x43_208, x43_209, x43_210, x43_213, x43_214, x43_215, x43_216, x43_217, x43_218, x43_221, x43_224, x43_225, x43_228, x43_229, x43_230, x43_233, x43_234, x43_235, x43_238, x43_239, x43_240, x43_241, x43_242, x43_243, x43_246, x43_247, x43_248, x43_251, x43_252, x43_253, x43_256, x43_259, x43_260, fcn_0_44, fcn_0_48, fcn_0_54, fcn_0_55, fcn_0_56, fcn_0_67, fcn_0_68, fcn_0_69, fcn_0_70, if_true, if_false, eq_self, Int.reduceEq, Int.reduceLT, Int.reduceLE, Int.reduceAdd, Int.reduceSub, Int.reduceMul, Int.reduceToNat, Nat.reduceAdd, Nat.reduceMul, Nat.reduceEqDiff, Int.toNat_natCast, wrap_id, hs, if_neg (show ¬ (k : Int) < lo.length by omega)]
    · rw [hd]
      exact hv
  | succ m ih =>
    intro k now v st s l5 hk hs hlo hw h3 hKT hv
    have hkl : k < lo.length := by omega
    obtain ⟨x, hx⟩ : ∃ x, lo[k]? = some x := ⟨_, List.getElem?_eq_getElem hkl⟩
    have hdr : lo.drop k = x :: lo.drop (k + 1) := by
      rw [List.drop_eq_getElem_cons hkl]
      have := List.getElem?_eq_getElem hkl
      rw [hx] at this
      cases this
      rfl
    obtain ⟨z1, z2, z3⟩ := hlo k x hx
    obtain ⟨o, sk, e⟩ := x
    dsimp only at z1 z2 z3
    rw [hdr] at hw ⊢
    have hlt : (k : Int) < lo.length := by omega
    have ek : ((k + 1 : Nat) : Int) = (k : Int) + 1 := by omega
    have hfin : ∀ (now' : Jvm.Term) (v' : Int) (st' : List Fm) (s1 : Mem) (l5' : AV), Ze d 43 43 [aR 0, aI g, aI st.length, aI v, aI k, l5] [] s = Ze d 43 43 [aR 0, aI g, aI st'.length, aI v', aI ((k + 1 : Nat) : Int), l5'] [] s1 → lwF g ((o, sk, e) :: lo.drop (k + 1)) now st = lwF g (lo.drop (k + 1)) now' st' → Fr FK s s1 → wfL st'.length (lo.drop (k + 1)) → st'.length ≤ 3 → KT s1 st' → BT v' (fun h => occ h now') →
        ∃ s' v', Ze d 43 43 [aR 0, aI g, aI st.length, aI v, aI k, l5] [] s = rI v' s' ∧ BT v' (fun h => occ h (lwF g ((o, sk, e) :: lo.drop (k + 1)) now st)) ∧ Fr FK s s' := by
      intro now' v' st' s1 l5' hz hl hf hw' h3' hKT' hv'
      obtain ⟨s', v2, q1, q2, q3⟩ := ih (k + 1) now' v' st' s1 l5' (by omega) (by rw [FK_k hf (by decide), hs]) (LR_put (fun k j hk => FK_k hf (by omega)) hlo) hw' h3' hKT' hv'
      rw [hl]
      exact ⟨s', v2, hz.trans q1, q2, hf.tr q3⟩
    match o, z1, z2, z3, hw, hfin with
    | 0, z1, z2, z3, hw, hfin =>
      have z1 : s 41 k = 0 := z1
      obtain ⟨y1, y2⟩ := z2 rfl
      have hw : wfL st.length (lo.drop (k + 1)) := hw
      by_cases hg : sk = g
      · rw [hg] at y1
        obtain ⟨w, hw1, hw2⟩ : ∃ w, Ze d 43 43 [aR 0, aI g, aI st.length, aI v, aI k, l5] [] s = Ze d 43 137 [aR 0, aI g, aI st.length, aI w, aI k, aI ((0 : Nat) : Int)] [] s ∧ BT w (fun h => occ h e) := by
          have e0 : ((0 : Nat) : Int) = 0 := rfl
          rcases y2 with ⟨h, rfl, h2, h3⟩ | ⟨n, h1, h2, h3⟩
          · refine ⟨ishl 1 h, ?_, BT_one h2⟩
            have eh : -1 - (-1 - (h : Int)) = h := by omega
            rw [e0, x43_43]
            simp (disch := first | exact obC_0 | omega | (simp only [aN1_35, aN1_39, aN1_41, aN1_42, aN1_43, aN1_53, aN1_54, aN1_55, aN2_52]; omega) | (simp only [List.length_cons, List.length_nil]; omega)) only [en43, x43_0, x43_1, x43_4, x43_5, x43_6, x43_9, x43_10, x43_11, x43_14, x43_15, x43_16, x43_19, x43_20, x43_21, x43_22, x43_23, x43_26, x43_27, x43_28, x43_29, x43_32, x43_33, x43_34, x43_35, x43_38, x43_39, x43_40, x43_41, x43_45, x43_46, x43_49, x43_52, x43_53, x43_56, x43_58, x43_59, x43_84, x43_85, x43_88, x43_90, x43_91, x43_92, x43_95, x43_98, x43_99, x43_102, x43_104, x43_105, x43_108, x43_109, x43_110, x43_111, x43_114, x43_116, x43_117, x43_118, x43_119, x43_122, x43_123, x43_124, x43_127, x43_129, x43_130, x43_133, x43_134, x43_135, x43_139, x43_140, x43_143, x43_144, x43_147, x43_149, x43_150, x43_151, x43_154, x43_157, x43_160, x43_161, x43_164, x43_165, x43_166, x43_167, x43_168, x43_171, x43_172, x43_173, x43_174, x43_175, x43_178, x43_179, x43_180, x43_183, x43_185, x43_186, x43_187, x43_188, x43_191, x43_192, x43_193, x43_194, x43_197, x43_200, x43_201, x43_204, x43_205, x43_206, x43_207, x43_208, x43_209, x43_210, x43_213, x43_214, x43_215, x43_216, x43_217, x43_218, x43_221, x43_224, x43_225, x43_228, x43_229, x43_230, x43_233, x43_234, x43_235, x43_238, x43_239, x43_240, x43_241, x43_242, x43_243, x43_246, x43_247, x43_248, x43_251, x43_252, x43_253, x43_256, x43_259, x43_260, fcn_0_44, fcn_0_48, fcn_0_54, fcn_0_55, fcn_0_56, fcn_0_67, fcn_0_68, fcn_0_69, fcn_0_70, if_true, if_false, eq_self, Int.reduceEq, Int.reduceLT, Int.reduceLE, Int.reduceAdd, Int.reduceSub, Int.reduceMul, Int.reduceToNat, Nat.reduceAdd, Nat.reduceMul, Nat.reduceEqDiff, Int.toNat_natCast, wrap_id, hs, if_pos hlt, z1, y1, h3, eh, if_pos (show (-1 : Int) - h < 0 by omega)]
          · obtain ⟨w, q1, q2⟩ := t_refs (d := d) hd h2 h3
            refine ⟨w, ?_, q2⟩
            rw [e0, x43_43]
            simp (disch := first | exact obC_0 | omega | (simp only [aN1_35, aN1_39, aN1_41, aN1_42, aN1_43, aN1_53, aN1_54, aN1_55, aN2_52]; omega) | (simp only [List.length_cons, List.length_nil]; omega)) only [en43, x43_0, x43_1, x43_4, x43_5, x43_6, x43_9, x43_10, x43_11, x43_14, x43_15, x43_16, x43_19, x43_20, x43_21, x43_22, x43_23, x43_26, x43_27, x43_28, x43_29, x43_32, x43_33, x43_34, x43_35, x43_38, x43_39, x43_40, x43_41, x43_45, x43_46, x43_49, x43_52, x43_53, x43_56, x43_58, x43_59, x43_84, x43_85, x43_88, x43_90, x43_91, x43_92, x43_95, x43_98, x43_99, x43_102, x43_104, x43_105, x43_108, x43_109, x43_110, x43_111, x43_114, x43_116, x43_117, x43_118, x43_119, x43_122, x43_123, x43_124, x43_127, x43_129, x43_130, x43_133, x43_134, x43_135, x43_139, x43_140, x43_143, x43_144, x43_147, x43_149, x43_150, x43_151, x43_154, x43_157, x43_160, x43_161, x43_164, x43_165, x43_166, x43_167, x43_168, x43_171, x43_172, x43_173, x43_174, x43_175, x43_178, x43_179, x43_180, x43_183, x43_185, x43_186, x43_187, x43_188, x43_191, x43_192, x43_193, x43_194, x43_197, x43_200, x43_201, x43_204, x43_205, x43_206, x43_207, x43_208, x43_209, x43_210, x43_213, x43_214, x43_215, x43_216, x43_217, x43_218, x43_221, x43_224, x43_225, x43_228, x43_229, x43_230, x43_233, x43_234, x43_235, x43_238, x43_239, x43_240, x43_241, x43_242, x43_243, x43_246, x43_247, x43_248, x43_251, x43_252, x43_253, x43_256, x43_259, x43_260, fcn_0_44, fcn_0_48, fcn_0_54, fcn_0_55, fcn_0_56, fcn_0_67, fcn_0_68, fcn_0_69, fcn_0_70, if_true, if_false, eq_self, Int.reduceEq, Int.reduceLT, Int.reduceLE, Int.reduceAdd, Int.reduceSub, Int.reduceMul, Int.reduceToNat, Nat.reduceAdd, Nat.reduceMul, Nat.reduceEqDiff, Int.toNat_natCast, wrap_id, hs, if_pos hlt, z1, y1, h1, q1, zcI_r, if_neg (show ¬ (n : Int) < 0 by omega)]
        obtain ⟨s1, l5', p1, p2, p3⟩ := dp_mark (d := d) (g := g) (k := k) (v := w) (s0 := s) h3 st.length 0 s (Nat.zero_add _) (fun j hj => absurd hj (Nat.not_lt_zero _))
        refine hfin e w (st.map fmT) s1 l5' ?_ (by rw [lwF_0, if_pos hg]) (p3.mono (fun c j z => Or.inl z)) (by rw [List.length_map]; exact hw) (by rw [List.length_map]; exact h3) (KT_map (fun c j hc => p3 _ _ hc) p2 hKT) hw2
        rw [hw1, p1, List.length_map, ek]
        simp (disch := first | exact obC_0 | omega | (simp only [aN1_35, aN1_39, aN1_41, aN1_42, aN1_43, aN1_53, aN1_54, aN1_55, aN2_52]; omega) | (simp only [List.length_cons, List.length_nil]; omega)) only [en43, x43_0, x43_1, x43_4, x43_5, x43_6, x43_9, x43_10, x43_11, x43_14, x43_15, x43_16, x43_19, x43_20, x43_21, x43_22, x43_23, x43_26, x43_27, x43_28, x43_29, x43_32, x43_33, x43_34, x43_35, x43_38, x43_39, x43_40, x43_41, x43_45, x43_46, x43_49, x43_52, x43_53, x43_56, x43_58, x43_59, x43_84, x43_85, x43_88, x43_90, x43_91, x43_92, x43_95, x43_98, x43_99, x43_102, x43_104, x43_105, x43_108, x43_109, x43_110, x43_111, x43_114, x43_116, x43_117, x43_118, x43_119, x43_122, x43_123, x43_124, x43_127, x43_129, x43_130, x43_133, x43_134, x43_135, x43_139, x43_140, x43_143, x43_144, x43_147, x43_149, x43_150, x43_151, x43_154, x43_157, x43_160, x43_161, x43_164, x43_165, x43_166, x43_167, x43_168, x43_171, x43_172, x43_173, x43_174, x43_175, x43_178, x43_179, x43_180, x43_183, x43_185, x43_186, x43_187, x43_188, x43_191, x43_192, x43_193, x43_194, x43_197, x43_200, x43_201, x43_204, x43_205, x43_206, x43_207, x43_208, x43_209, x43_210, x43_213, x43_214, x43_215, x43_216, x43_217, x43_218, x43_221, x43_224, x43_225, x43_228, x43_229, x43_230, x43_233, x43_234, x43_235, x43_238, x43_239, x43_240, x43_241, x43_242, x43_243, x43_246, x43_247, x43_248, x43_251, x43_252, x43_253, x43_256, x43_259, x43_260, fcn_0_44, fcn_0_48, fcn_0_54, fcn_0_55, fcn_0_56, fcn_0_67, fcn_0_68, fcn_0_69, fcn_0_70, if_true, if_false, eq_self, Int.reduceEq, Int.reduceLT, Int.reduceLE, Int.reduceAdd, Int.reduceSub, Int.reduceMul, Int.reduceToNat, Nat.reduceAdd, Nat.reduceMul, Nat.reduceEqDiff, Int.toNat_natCast, wrap_id]
      · refine hfin now v st s l5 ?_ (by rw [lwF_0, if_neg hg]) (Fr.rf s) hw h3 hKT hv
        rw [ek, x43_43]
        simp (disch := first | exact obC_0 | omega | (simp only [aN1_35, aN1_39, aN1_41, aN1_42, aN1_43, aN1_53, aN1_54, aN1_55, aN2_52]; omega) | (simp only [List.length_cons, List.length_nil]; omega)) only [en43, x43_0, x43_1, x43_4, x43_5, x43_6, x43_9, x43_10, x43_11, x43_14, x43_15, x43_16, x43_19, x43_20, x43_21, x43_22, x43_23, x43_26, x43_27, x43_28, x43_29, x43_32, x43_33, x43_34, x43_35, x43_38, x43_39, x43_40, x43_41, x43_45, x43_46, x43_49, x43_52, x43_53, x43_56, x43_58, x43_59, x43_84, x43_85, x43_88, x43_90, x43_91, x43_92, x43_95, x43_98, x43_99, x43_102, x43_104, x43_105, x43_108, x43_109, x43_110, x43_111, x43_114, x43_116, x43_117, x43_118, x43_119, x43_122, x43_123, x43_124, x43_127, x43_129, x43_130, x43_133, x43_134, x43_135, x43_139, x43_140, x43_143, x43_144, x43_147, x43_149, x43_150, x43_151, x43_154, x43_157, x43_160, x43_161, x43_164, x43_165, x43_166, x43_167, x43_168, x43_171, x43_172, x43_173, x43_174, x43_175, x43_178, x43_179, x43_180, x43_183, x43_185, x43_186, x43_187, x43_188, x43_191, x43_192, x43_193, x43_194, x43_197, x43_200, x43_201, x43_204, x43_205, x43_206, x43_207, x43_208, x43_209, x43_210, x43_213, x43_214, x43_215, x43_216, x43_217, x43_218, x43_221, x43_224, x43_225, x43_228, x43_229, x43_230, x43_233, x43_234, x43_235, x43_238, x43_239, x43_240, x43_241, x43_242, x43_243, x43_246, x43_247, x43_248, x43_251, x43_252, x43_253, x43_256, x43_259, x43_260, fcn_0_44, fcn_0_48, fcn_0_54, fcn_0_55, fcn_0_56, fcn_0_67, fcn_0_68, fcn_0_69, fcn_0_70, if_true, if_false, eq_self, Int.reduceEq, Int.reduceLT, Int.reduceLE, Int.reduceAdd, Int.reduceSub, Int.reduceMul, Int.reduceToNat, Nat.reduceAdd, Nat.reduceMul, Nat.reduceEqDiff, Int.toNat_natCast, wrap_id, hs, if_pos hlt, z1, y1, if_neg (show ¬ (sk : Int) = g by omega)]
    | 1, z1, z2, z3, hw, hfin =>
      have z1 : s 41 k = 1 := z1
      obtain ⟨n, y1, y2, y3⟩ := z3 rfl
      obtain ⟨hw1, hw2⟩ := hw
      generalize hs1 : mu (mu (mu (mu s 53 st.length v) 54 st.length v) 55 st.length n) 52 st.length 0 = s1
      have F1 : Fr FK s s1 := by
        rw [← hs1]
        exact Fr.mu (S := FK) (Fr.mu (S := FK) (Fr.mu (S := FK) (Fr.mu (S := FK) (Fr.rf s) (by unfold FK; decide)) (by unfold FK; decide)) (by unfold FK; decide)) (by unfold FK; decide)
      refine hfin now v ((now, none, e, false) :: st) s1 l5 ?_ rfl F1 hw2 (by rw [List.length_cons]; omega) ⟨?_, ?_, ⟨n, ?_, RR_put y2 (fun c j hc _ _ => FK_k F1 (by omega)), y3⟩, ?_, ?_⟩ hv
      · rw [List.length_cons, show ((st.length + 1 : Nat) : Int) = (st.length : Int) + 1 from rfl, ek, x43_43]
        simp (disch := first | exact obC_0 | omega | (simp only [aN1_35, aN1_39, aN1_41, aN1_42, aN1_43, aN1_53, aN1_54, aN1_55, aN2_52]; omega) | (simp only [List.length_cons, List.length_nil]; omega)) only [en43, x43_0, x43_1, x43_4, x43_5, x43_6, x43_9, x43_10, x43_11, x43_14, x43_15, x43_16, x43_19, x43_20, x43_21, x43_22, x43_23, x43_26, x43_27, x43_28, x43_29, x43_32, x43_33, x43_34, x43_35, x43_38, x43_39, x43_40, x43_41, x43_45, x43_46, x43_49, x43_52, x43_53, x43_56, x43_58, x43_59, x43_84, x43_85, x43_88, x43_90, x43_91, x43_92, x43_95, x43_98, x43_99, x43_102, x43_104, x43_105, x43_108, x43_109, x43_110, x43_111, x43_114, x43_116, x43_117, x43_118, x43_119, x43_122, x43_123, x43_124, x43_127, x43_129, x43_130, x43_133, x43_134, x43_135, x43_139, x43_140, x43_143, x43_144, x43_147, x43_149, x43_150, x43_151, x43_154, x43_157, x43_160, x43_161, x43_164, x43_165, x43_166, x43_167, x43_168, x43_171, x43_172, x43_173, x43_174, x43_175, x43_178, x43_179, x43_180, x43_183, x43_185, x43_186, x43_187, x43_188, x43_191, x43_192, x43_193, x43_194, x43_197, x43_200, x43_201, x43_204, x43_205, x43_206, x43_207, x43_208, x43_209, x43_210, x43_213, x43_214, x43_215, x43_216, x43_217, x43_218, x43_221, x43_224, x43_225, x43_228, x43_229, x43_230, x43_233, x43_234, x43_235, x43_238, x43_239, x43_240, x43_241, x43_242, x43_243, x43_246, x43_247, x43_248, x43_251, x43_252, x43_253, x43_256, x43_259, x43_260, fcn_0_44, fcn_0_48, fcn_0_54, fcn_0_55, fcn_0_56, fcn_0_67, fcn_0_68, fcn_0_69, fcn_0_70, if_true, if_false, eq_self, Int.reduceEq, Int.reduceLT, Int.reduceLE, Int.reduceAdd, Int.reduceSub, Int.reduceMul, Int.reduceToNat, Nat.reduceAdd, Nat.reduceMul, Nat.reduceEqDiff, Int.toNat_natCast, wrap_id, hs, if_pos hlt, z1, y1, mu_c, hs1]
      · rw [← hs1, mu_c (by decide), mu_c (by decide), mu_c (by decide), mu_s]; exact hv
      · rw [← hs1, mu_c (by decide), mu_c (by decide), mu_s]; exact hv
      · rw [← hs1, mu_c (by decide), mu_s]
      · rw [← hs1, mu_s]; rfl
      · exact KT_put (fun c j hc => FK_k F1 (by omega)) (fun c j hc hj => by rw [← hs1, mu_i (by omega), mu_i (by omega), mu_i (by omega), mu_i (by omega)]) hKT
    | 2, z1, z2, z3, hw, hfin =>
      have z1 : s 41 k = 2 := z1
      obtain ⟨hw1, hw2⟩ := hw
      cases st with
      | nil => exact absurd hw1 (by decide)
      | cons f st =>
        rw [List.length_cons] at hw2 h3
        obtain ⟨a1, a2, ⟨n, a3, a4, a5⟩, a6, a7⟩ := hKT
        generalize hs1 : mu s 54 st.length v = s1
        have F1 : Fr FK s s1 := by rw [← hs1]; exact Fr.mu (S := FK) (Fr.rf s) (by unfold FK; decide)
        have k1 : ∀ {c : Nat}, c ≠ 54 → s1 c st.length = s c st.length := fun hc => by rw [← hs1, mu_c hc]
        have e1 : (((st.length : Int) + 1) - 1).toNat = st.length := by omega
        have kp1 : s1 53 st.length = s 53 st.length := k1 (by decide)
        refine hfin f.1 (s 53 st.length) ((f.1, some now, f.2.2.1, f.2.2.2) :: st) s1 l5 ?_ rfl F1 hw2 (by rw [List.length_cons]; omega) ⟨?_, ?_, ⟨n, ?_, RR_put a4 (fun c j hc _ _ => FK_k F1 (by omega)), a5⟩, ?_, ?_⟩ a1
        · rw [List.length_cons, List.length_cons, show ((st.length + 1 : Nat) : Int) = (st.length : Int) + 1 from rfl, ek, x43_43]
          simp (disch := first | exact obC_0 | omega | (simp only [aN1_35, aN1_39, aN1_41, aN1_42, aN1_43, aN1_53, aN1_54, aN1_55, aN2_52]; omega) | (simp only [List.length_cons, List.length_nil]; omega)) only [en43, x43_0, x43_1, x43_4, x43_5, x43_6, x43_9, x43_10, x43_11, x43_14, x43_15, x43_16, x43_19, x43_20, x43_21, x43_22, x43_23, x43_26, x43_27, x43_28, x43_29, x43_32, x43_33, x43_34, x43_35, x43_38, x43_39, x43_40, x43_41, x43_45, x43_46, x43_49, x43_52, x43_53, x43_56, x43_58, x43_59, x43_84, x43_85, x43_88, x43_90, x43_91, x43_92, x43_95, x43_98, x43_99, x43_102, x43_104, x43_105, x43_108, x43_109, x43_110, x43_111, x43_114, x43_116, x43_117, x43_118, x43_119, x43_122, x43_123, x43_124, x43_127, x43_129, x43_130, x43_133, x43_134, x43_135, x43_139, x43_140, x43_143, x43_144, x43_147, x43_149, x43_150, x43_151, x43_154, x43_157, x43_160, x43_161, x43_164, x43_165, x43_166, x43_167, x43_168, x43_171, x43_172, x43_173, x43_174, x43_175, x43_178, x43_179, x43_180, x43_183, x43_185, x43_186, x43_187, x43_188, x43_191, x43_192, x43_193, x43_194, x43_197, x43_200, x43_201, x43_204, x43_205, x43_206, x43_207, x43_208, x43_209, x43_210, x43_213, x43_214, x43_215, x43_216, x43_217, x43_218, x43_221, x43_224, x43_225, x43_228, x43_229, x43_230, x43_233, x43_234, x43_235, x43_238, x43_239, x43_240, x43_241, x43_242, x43_243, x43_246, x43_247, x43_248, x43_251, x43_252, x43_253, x43_256, x43_259, x43_260, fcn_0_44, fcn_0_48, fcn_0_54, fcn_0_55, fcn_0_56, fcn_0_67, fcn_0_68, fcn_0_69, fcn_0_70, if_true, if_false, eq_self, Int.reduceEq, Int.reduceLT, Int.reduceLE, Int.reduceAdd, Int.reduceSub, Int.reduceMul, Int.reduceToNat, Nat.reduceAdd, Nat.reduceMul, Nat.reduceEqDiff, Int.toNat_natCast, wrap_id, hs, if_pos hlt, z1, e1, hs1, kp1]
        · rw [kp1]; exact a1
        · rw [← hs1, mu_s]; exact hv
        · rw [k1 (by decide), a3]
        · rw [k1 (by decide), a6]
        · exact KT_put (fun c j hc => FK_k F1 (by omega)) (fun c j hc hj => by rw [← hs1, mu_i (by omega)]) a7
    | 3, z1, z2, z3, hw, hfin =>
      have z1 : s 41 k = 3 := z1
      obtain ⟨hw1, hw2⟩ := hw
      cases st with
      | nil => exact absurd hw1 (by decide)
      | cons f st =>
        rw [List.length_cons] at hw2 h3
        obtain ⟨a1, a2, ⟨n, a3, a4, a5⟩, a6, a7⟩ := hKT
        have e1 : (st.length : Int) + 1 + -1 = st.length := by omega
        obtain ⟨w, q1, q2⟩ := t_refs (d := d) hd a4 a5
        cases hb : f.2.2.2 with
        | true =>
          rw [hb] at a6
          have a6 : s 52 st.length = 1 := a6
          refine hfin (fmC now f) (ior (ior v (s 54 st.length)) w) st s l5 ?_ rfl (Fr.rf s) hw2 (by omega) a7 (BT_iff (BT_or (BT_or hv a2) q2) (fun h _ => ?_))
          · rw [List.length_cons, show ((st.length + 1 : Nat) : Int) = (st.length : Int) + 1 from rfl, ek, x43_43]
            simp (disch := first | exact obC_0 | omega | (simp only [aN1_35, aN1_39, aN1_41, aN1_42, aN1_43, aN1_53, aN1_54, aN1_55, aN2_52]; omega) | (simp only [List.length_cons, List.length_nil]; omega)) only [en43, x43_0, x43_1, x43_4, x43_5, x43_6, x43_9, x43_10, x43_11, x43_14, x43_15, x43_16, x43_19, x43_20, x43_21, x43_22, x43_23, x43_26, x43_27, x43_28, x43_29, x43_32, x43_33, x43_34, x43_35, x43_38, x43_39, x43_40, x43_41, x43_45, x43_46, x43_49, x43_52, x43_53, x43_56, x43_58, x43_59, x43_84, x43_85, x43_88, x43_90, x43_91, x43_92, x43_95, x43_98, x43_99, x43_102, x43_104, x43_105, x43_108, x43_109, x43_110, x43_111, x43_114, x43_116, x43_117, x43_118, x43_119, x43_122, x43_123, x43_124, x43_127, x43_129, x43_130, x43_133, x43_134, x43_135, x43_139, x43_140, x43_143, x43_144, x43_147, x43_149, x43_150, x43_151, x43_154, x43_157, x43_160, x43_161, x43_164, x43_165, x43_166, x43_167, x43_168, x43_171, x43_172, x43_173, x43_174, x43_175, x43_178, x43_179, x43_180, x43_183, x43_185, x43_186, x43_187, x43_188, x43_191, x43_192, x43_193, x43_194, x43_197, x43_200, x43_201, x43_204, x43_205, x43_206, x43_207, x43_208, x43_209, x43_210, x43_213, x43_214, x43_215, x43_216, x43_217, x43_218, x43_221, x43_224, x43_225, x43_228, x43_229, x43_230, x43_233, x43_234, x43_235, x43_238, x43_239, x43_240, x43_241, x43_242, x43_243, x43_246, x43_247, x43_248, x43_251, x43_252, x43_253, x43_256, x43_259, x43_260, fcn_0_44, fcn_0_48, fcn_0_54, fcn_0_55, fcn_0_56, fcn_0_67, fcn_0_68, fcn_0_69, fcn_0_70, if_true, if_false, eq_self, Int.reduceEq, Int.reduceLT, Int.reduceLE, Int.reduceAdd, Int.reduceSub, Int.reduceMul, Int.reduceToNat, Nat.reduceAdd, Nat.reduceMul, Nat.reduceEqDiff, Int.toNat_natCast, wrap_id, hs, if_pos hlt, z1, e1, a6, a3, q1, zcI_r]
          · unfold fmC
            rw [if_pos hb]
            cases f.2.1 with
            | none =>
              simp only [chc, occ]
              exact ⟨fun z => z.elim (fun z => z.elim (fun z => Or.inr (Or.inl z)) (fun z => Or.inr (Or.inr z))) Or.inl, fun z => z.elim Or.inr (fun z => z.elim (fun z => Or.inl (Or.inl z)) (fun z => Or.inl (Or.inr z)))⟩
            | some t =>
              simp only [chc, occ]
              exact ⟨fun z => z.elim (fun z => z.elim (fun z => Or.inr (Or.inr z)) (fun z => Or.inr (Or.inl z))) Or.inl, fun z => z.elim Or.inr (fun z => z.elim (fun z => Or.inl (Or.inr z)) (fun z => Or.inl (Or.inl z)))⟩
        | false =>
          rw [hb] at a6
          have a6 : s 52 st.length = 0 := a6
          refine hfin (fmC now f) v st s l5 ?_ rfl (Fr.rf s) hw2 (by omega) a7 ?_
          · rw [List.length_cons, show ((st.length + 1 : Nat) : Int) = (st.length : Int) + 1 from rfl, ek, x43_43]
            simp (disch := first | exact obC_0 | omega | (simp only [aN1_35, aN1_39, aN1_41, aN1_42, aN1_43, aN1_53, aN1_54, aN1_55, aN2_52]; omega) | (simp only [List.length_cons, List.length_nil]; omega)) only [en43, x43_0, x43_1, x43_4, x43_5, x43_6, x43_9, x43_10, x43_11, x43_14, x43_15, x43_16, x43_19, x43_20, x43_21, x43_22, x43_23, x43_26, x43_27, x43_28, x43_29, x43_32, x43_33, x43_34, x43_35, x43_38, x43_39, x43_40, x43_41, x43_45, x43_46, x43_49, x43_52, x43_53, x43_56, x43_58, x43_59, x43_84, x43_85, x43_88, x43_90, x43_91, x43_92, x43_95, x43_98, x43_99, x43_102, x43_104, x43_105, x43_108, x43_109, x43_110, x43_111, x43_114, x43_116, x43_117, x43_118, x43_119, x43_122, x43_123, x43_124, x43_127, x43_129, x43_130, x43_133, x43_134, x43_135, x43_139, x43_140, x43_143, x43_144, x43_147, x43_149, x43_150, x43_151, x43_154, x43_157, x43_160, x43_161, x43_164, x43_165, x43_166, x43_167, x43_168, x43_171, x43_172, x43_173, x43_174, x43_175, x43_178, x43_179, x43_180, x43_183, x43_185, x43_186, x43_187, x43_188, x43_191, x43_192, x43_193, x43_194, x43_197, x43_200, x43_201, x43_204, x43_205, x43_206, x43_207, x43_208, x43_209, x43_210, x43_213, x43_214, x43_215, x43_216, x43_217, x43_218, x43_221, x43_224, x43_225, x43_228, x43_229, x43_230, x43_233, x43_234, x43_235, x43_238, x43_239, x43_240, x43_241, x43_242, x43_243, x43_246, x43_247, x43_248, x43_251, x43_252, x43_253, x43_256, x43_259, x43_260, fcn_0_44, fcn_0_48, fcn_0_54, fcn_0_55, fcn_0_56, fcn_0_67, fcn_0_68, fcn_0_69, fcn_0_70, if_true, if_false, eq_self, Int.reduceEq, Int.reduceLT, Int.reduceLE, Int.reduceAdd, Int.reduceSub, Int.reduceMul, Int.reduceToNat, Nat.reduceAdd, Nat.reduceMul, Nat.reduceEqDiff, Int.toNat_natCast, wrap_id, hs, if_pos hlt, z1, e1, a6]
          · unfold fmC
            rw [if_neg (by rw [hb]; decide)]
            exact hv
    | o + 4, z1, z2, z3, hw, hfin => exact absurd hw (by unfold wfL; exact id)
/-- what a signal is at last -/
def form (sg : List Sg) (lo : List Lo) (g : Nat) : Jvm.Term :=
  match sg[g]? with
  | some x => if x.1 = 4 then x.2.2.2.2 else lwF g lo (if x.1 = 3 then .index g else .null) []
  | none => .null
theorem t_depends {d g : Nat} {sg : List Sg} {lo : List Lo} {x : Sg} {s : Mem} (hd : 2 ≤ d) (hg : g < 24) (hx : sg[g]? = some x) (hl2 : lo.length ≤ 1100) (hs : s 0 57 = lo.length) (hlo : LR s lo) (hw : wfL 0 lo) (hsort : s 35 g = x.1) (hnd : (x.1 = 4 ∧ ∃ n : Nat, s 39 g = n ∧ RR s x.2.2.2.2 n ∧ n + esz x.2.2.2.2 ≤ 220) ∨ (x.1 ≠ 4 ∧ s 39 g = -1)) : ∃ s' v, Zc d 43 [aR 0, aI g] s = rI v s' ∧ BT v (fun h => occ h (form sg lo g)) ∧ Fr FK s s' := by
  obtain ⟨d, rfl⟩ : ∃ e, d = e + 1 := ⟨d - 1, by omega⟩
  unfold form
  rw [hx]
  dsimp only
  rcases hnd with ⟨h4, n, h1, h2, h3⟩ | ⟨h4, h1⟩
  · rw [if_pos h4]
    obtain ⟨v, q1, q2⟩ := t_refs (d := d) (by omega) h2 h3
    refine ⟨s, v, ?_, q2, Fr.rf s⟩
    simp (disch := first | exact obC_0 | omega | (simp only [aN1_35, aN1_39, aN1_41, aN1_42, aN1_43, aN1_53, aN1_54, aN1_55, aN2_52]; omega) | (simp only [List.length_cons, List.length_nil]; omega)) only [en43, x43_0, x43_1, x43_4, x43_5, x43_6, x43_9, x43_10, x43_11, x43_14, x43_15, x43_16, x43_19, x43_20, x43_21, x43_22, x43_23, x43_26, x43_27, x43_28, x43_29, x43_32, x43_33, x43_34, x43_35, x43_38, x43_39, x43_40, x43_41, x43_45, x43_46, x43_49, x43_52, x43_53, x43_56, x43_58, x43_59, x43_84, x43_85, x43_88, x43_90, x43_91, x43_92, x43_95, x43_98, x43_99, x43_102, x43_104, x43_105, x43_108, x43_109, x43_110, x43_111, x43_114, x43_116, x43_117, x43_118, x43_119, x43_122, x43_123, x43_124, x43_127, x43_129, x43_130, x43_133, x43_134, x43_135, x43_139, x43_140, x43_143, x43_144, x43_147, x43_149, x43_150, x43_151, x43_154, x43_157, x43_160, x43_161, x43_164, x43_165, x43_166, x43_167, x43_168, x43_171, x43_172, x43_173, x43_174, x43_175, x43_178, x43_179, x43_180, x43_183, x43_185, x43_186, x43_187, x43_188, x43_191, x43_192, x43_193, x43_194, x43_197, x43_200, x43_201, x43_204, x43_205, x43_206, x43_207, x43_208, x43_209, x43_210, x43_213, x43_214, x43_215, x43_216, x43_217, x43_218, x43_221, x43_224, x43_225, x43_228, x43_229, x43_230, x43_233, x43_234, x43_235, x43_238, x43_239, x43_240, x43_241, x43_242, x43_243, x43_246, x43_247, x43_248, x43_251, x43_252, x43_253, x43_256, x43_259, x43_260, fcn_0_44, fcn_0_48, fcn_0_54, fcn_0_55, fcn_0_56, fcn_0_67, fcn_0_68, fcn_0_69, fcn_0_70, if_true, if_false, eq_self, Int.reduceEq, Int.reduceLT, Int.reduceLE, Int.reduceAdd, Int.reduceSub, Int.reduceMul, Int.reduceToNat, Nat.reduceAdd, Nat.reduceMul, Nat.reduceEqDiff, Int.toNat_natCast, wrap_id, h1, q1, zcI_r, if_neg (show ¬ (n : Int) < 0 by omega)]
  · rw [if_neg h4]
    have z0 : ((([] : List Fm).length : Nat) : Int) = 0 := rfl
    have z1 : ((0 : Nat) : Int) = 0 := rfl
    by_cases h3 : x.1 = 3
    · rw [if_pos h3]
      have hsort : s 35 g = 3 := by rw [hsort, h3]; rfl
      obtain ⟨s', v, q1, q2, q3⟩ := dp_loop (d := d) (g := g) (by omega) hl2 lo.length 0 (.index g) (ishl 1 g) [] s aU (Nat.zero_add _) hs hlo hw (Nat.zero_le _) trivial (BT_one hg)
      refine ⟨s', v, Eq.trans ?_ q1, q2, q3⟩
      rw [z0, z1]
      simp (disch := first | exact obC_0 | omega | (simp only [aN1_35, aN1_39, aN1_41, aN1_42, aN1_43, aN1_53, aN1_54, aN1_55, aN2_52]; omega) | (simp only [List.length_cons, List.length_nil]; omega)) only [en43, x43_0, x43_1, x43_4, x43_5, x43_6, x43_9, x43_10, x43_11, x43_14, x43_15, x43_16, x43_19, x43_20, x43_21, x43_22, x43_23, x43_26, x43_27, x43_28, x43_29, x43_32, x43_33, x43_34, x43_35, x43_38, x43_39, x43_40, x43_41, x43_45, x43_46, x43_49, x43_52, x43_53, x43_56, x43_58, x43_59, x43_84, x43_85, x43_88, x43_90, x43_91, x43_92, x43_95, x43_98, x43_99, x43_102, x43_104, x43_105, x43_108, x43_109, x43_110, x43_111, x43_114, x43_116, x43_117, x43_118, x43_119, x43_122, x43_123, x43_124, x43_127, x43_129, x43_130, x43_133, x43_134, x43_135, x43_139, x43_140, x43_143, x43_144, x43_147, x43_149, x43_150, x43_151, x43_154, x43_157, x43_160, x43_161, x43_164, x43_165, x43_166, x43_167, x43_168, x43_171, x43_172, x43_173, x43_174, x43_175, x43_178, x43_179, x43_180, x43_183, x43_185, x43_186, x43_187, x43_188, x43_191, x43_192, x43_193, x43_194, x43_197, x43_200, x43_201, x43_204, x43_205, x43_206, x43_207, x43_208, x43_209, x43_210, x43_213, x43_214, x43_215, x43_216, x43_217, x43_218, x43_221, x43_224, x43_225, x43_228, x43_229, x43_230, x43_233, x43_234, x43_235, x43_238, x43_239, x43_240, x43_241, x43_242, x43_243, x43_246, x43_247, x43_248, x43_251, x43_252, x43_253, x43_256, x43_259, x43_260, fcn_0_44, fcn_0_48, fcn_0_54, fcn_0_55, fcn_0_56, fcn_0_67, fcn_0_68, fcn_0_69, fcn_0_70, if_true, if_false, eq_self, Int.reduceEq, Int.reduceLT, Int.reduceLE, Int.reduceAdd, Int.reduceSub, Int.reduceMul, Int.reduceToNat, Nat.reduceAdd, Nat.reduceMul, Nat.reduceEqDiff, Int.toNat_natCast, wrap_id, h1, hsort]
    · rw [if_neg h3]
      obtain ⟨s', v, q1, q2, q3⟩ := dp_loop (d := d) (g := g) (by omega) hl2 lo.length 0 .null 0 [] s aU (Nat.zero_add _) hs hlo hw (Nat.zero_le _) trivial BT_0
      refine ⟨s', v, Eq.trans ?_ q1, q2, q3⟩
      rw [z0, z1]
      simp (disch := first | exact obC_0 | omega | (simp only [aN1_35, aN1_39, aN1_41, aN1_42, aN1_43, aN1_53, aN1_54, aN1_55, aN2_52]; omega) | (simp only [List.length_cons, List.length_nil]; omega)) only [en43, x43_0, x43_1, x43_4, x43_5, x43_6, x43_9, x43_10, x43_11, x43_14, x43_15, x43_16, x43_19, x43_20, x43_21, x43_22, x43_23, x43_26, x43_27, x43_28, x43_29, x43_32, x43_33, x43_34, x43_35, x43_38, x43_39, x43_40, x43_41, x43_45, x43_46, x43_49, x43_52, x43_53, x43_56, x43_58, x43_59, x43_84, x43_85, x43_88, x43_90, x43_91, x43_92, x43_95, x43_98, x43_99, x43_102, x43_104, x43_105, x43_108, x43_109, x43_110, x43_111, x43_114, x43_116, x43_117, x43_118, x43_119, x43_122, x43_123, x43_124, x43_127, x43_129, x43_130, x43_133, x43_134, x43_135, x43_139, x43_140, x43_143, x43_144, x43_147, x43_149, x43_150, x43_151, x43_154, x43_157, x43_160, x43_161, x43_164, x43_165, x43_166, x43_167, x43_168, x43_171, x43_172, x43_173, x43_174, x43_175, x43_178, x43_179, x43_180, x43_183, x43_185, x43_186, x43_187, x43_188, x43_191, x43_192, x43_193, x43_194, x43_197, x43_200, x43_201, x43_204, x43_205, x43_206, x43_207, x43_208, x43_209, x43_210, x43_213, x43_214, x43_215, x43_216, x43_217, x43_218, x43_221, x43_224, x43_225, x43_228, x43_229, x43_230, x43_233, x43_234, x43_235, x43_238, x43_239, x43_240, x43_241, x43_242, x43_243, x43_246, x43_247, x43_248, x43_251, x43_252, x43_253, x43_256, x43_259, x43_260, fcn_0_44, fcn_0_48, fcn_0_54, fcn_0_55, fcn_0_56, fcn_0_67, fcn_0_68, fcn_0_69, fcn_0_70, if_true, if_false, eq_self, Int.reduceEq, Int.reduceLT, Int.reduceLE, Int.reduceAdd, Int.reduceSub, Int.reduceMul, Int.reduceToNat, Nat.reduceAdd, Nat.reduceMul, Nat.reduceEqDiff, Int.toNat_natCast, wrap_id, h1, hsort, if_neg (show ¬ (x.1 : Int) = 3 by omega)]
