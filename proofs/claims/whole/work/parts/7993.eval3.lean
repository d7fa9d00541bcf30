theorem vE_mask {val : Nat → Int} {W : Nat → Nat} {e : Jvm.Term} : iand (vE val W e) (msk (wE W e)) = vE val W e := by
  fun_cases vE val W e with
  | case1 g => simp only [wE]; exact iand_idem _ _
  | case2 v => simp only [wE]; exact iand_idem _ _
  | case3 a => simp only [wE]; exact iand_idem _ _
  | case4 h l a => simp only [wE]; exact iand_idem _ _
  | case5 c a b => exact iand_idem _ _
  | case6 c a b => exact iand_idem _ _
  | case7 => exact iand_z _
/-- the values that are found, and what is known of them -/
def EVI (s : Mem) (sg : List Sg) (lo : List Lo) (W : Nat → Nat) (st val : Nat → Int) (K : Nat → Prop) : Prop :=
  LV s sg lo W ∧ (∀ j, j < 24 → s 44 j = val j) ∧ (∀ j, j < 24 → s 45 j = st j) ∧ (∀ j, j < sg.length → (K j → s 49 j = 1) ∧ (¬ K j → s 49 j = 0)) ∧
  (∀ (g : Nat) (x : Sg), sg[g]? = some x → K g → (bas x → val g = st g) ∧ (¬ bas x → val g = rhs sg lo W st val g x ∧ ∀ h, dpd sg lo g h → K h)) ∧ (∀ h, h < sg.length → iand (val h) (msk (W h)) = val h) ∧ (∀ (g : Nat) (x : Sg), sg[g]? = some x → bas x → K g)
def vUp (val : Nat → Int) (g : Nat) (v : Int) : Nat → Int := fun i => if i = g then v else val i
theorem dpd_form {sg : List Sg} {lo : List Lo} {g h : Nat} {x : Sg} (hx : sg[g]? = some x) (hb : ¬ bas x) : occ h (if x.1 = 4 then x.2.2.2.2 else lwF g lo .null []) → dpd sg lo g h := by
  intro ho
  refine ⟨x, hx, ?_, ?_⟩
  · rcases bas_dec x with z | ⟨z, -⟩ | ⟨-, -, z, -⟩ | ⟨-, -, -, z⟩
    · exact absurd (Or.inl z) hb
    · exact Or.inr z
    · exact Or.inl z
    · exact absurd z hb
  · unfold form
    rw [hx]
    dsimp only
    by_cases h4 : x.1 = 4
    · rw [if_pos h4] at ho ⊢
      exact ho
    · rw [if_neg h4] at ho ⊢
      rw [if_neg (fun z => hb (Or.inl z))]
      exact ho
theorem rhs_eq {sg : List Sg} {lo : List Lo} {W : Nat → Nat} {st val val' : Nat → Int} {g : Nat} {x : Sg} (hx : sg[g]? = some x) (hb : ¬ bas x) (h : ∀ k, dpd sg lo g k → val k = val' k) : rhs sg lo W st val g x = rhs sg lo W st val' g x := by
  unfold rhs
  have hd := fun k => dpd_form (lo := lo) (h := k) hx hb
  by_cases h4 : x.1 = 4
  · rw [if_pos h4, if_pos h4]
    exact vE_eq (fun k hk => h k (hd k (by rw [if_pos h4]; exact hk)))
  · rw [if_neg h4, if_neg h4, vF_eq (fun k hk => h k (hd k (by rw [if_neg h4]; exact hk)))]
/-- one signal is worked out -/
theorem ev_one {d g left : Nat} {l4 : AV} {sg : List Sg} {lo : List Lo} {W : Nat → Nat} {st val : Nat → Int} {K : Nat → Prop} {x : Sg} {s : Mem} (hd : 4 ≤ d) (hx : sg[g]? = some x) (hI : EVI s sg lo W st val K) (hk : ¬ K g) (hle : 1 ≤ left ∧ left ≤ 24) (hdp : ∀ h, dpd sg lo g h → K h) :
    ∃ s' v, Ze d 51 169 [aR 0, aI left, aI g, aI 1, l4] [] s = Ze d 51 94 [aR 0, aI (left + -1), aI ((g + 1 : Nat) : Int), aI 1, l4] [] s' ∧ EVI s' sg lo W st (vUp val g v) (fun j => K j ∨ j = g) ∧ Fr FEv s s' := by
  obtain ⟨i1, i2, i3, i4, i5, i6, i7⟩ := hI
  have hg := (List.getElem?_eq_some_iff.mp hx).1
  have hL := i1
  obtain ⟨l1, l2, l3, l4', l5, l6, l7, l8, l9⟩ := i1
  obtain ⟨z1, z2, z3, z4, z5, z6, z7⟩ := l9 g x hx
  have hb : ¬ bas x := fun z => hk (i7 g x hx z)
  have hlw : wrap ((left : Int) + -1) = (left : Int) + -1 := wrap_id (by omega)
  have e1 : (24 : Int) + g = ((24 + g : Nat) : Int) := rfl
  have eg : ((g + 1 : Nat) : Int) = (g : Int) + 1 := by omega
  obtain ⟨s1, hz, hf⟩ : ∃ s1, Ze d 51 169 [aR 0, aI left, aI g, aI 1, l4] [] s = Ze d 51 94 [aR 0, aI (left + -1), aI ((g : Int) + 1), aI 1, l4] [] (mu (mu s1 44 g (rhs sg lo W st val g x)) 49 g 1) ∧ Fr FBc s s1 := by
    unfold rhs
    by_cases h4 : x.1 = 4
    · obtain ⟨n, y1, y2, y3, y4, y5⟩ := z7 h4
      rw [if_pos h4]
      have z1 : s 35 (24 + g) = 4 := by rw [z1, h4]; rfl
      obtain ⟨s1, q1, q2⟩ := t_worthOf (d := d) (val := val) (W := W) (by omega) y2 y3 y4 i2
      refine ⟨s1, ?_, q2.mono (fun c j z => Or.inl z)⟩
      simp (disch := first | exact obC_0 | omega | (simp only [aN1_35, aN1_37, aN1_39, aN1_40, aN1_44, aN1_45, aN2_49]; omega) | (simp only [List.length_cons, List.length_nil]; omega)) only [en51, x51_0, x51_1, x51_2, x51_3, x51_5, x51_6, x51_9, x51_12, x51_13, x51_16, x51_18, x51_19, x51_20, x51_21, x51_22, x51_23, x51_26, x51_27, x51_28, x51_29, x51_32, x51_33, x51_34, x51_37, x51_38, x51_41, x51_43, x51_44, x51_45, x51_46, x51_49, x51_50, x51_53, x51_54, x51_55, x51_56, x51_59, x51_60, x51_61, x51_64, x51_65, x51_68, x51_69, x51_70, x51_73, x51_74, x51_75, x51_76, x51_79, x51_82, x51_85, x51_89, x51_92, x51_93, x51_95, x51_96, x51_99, x51_102, x51_103, x51_106, x51_107, x51_108, x51_111, x51_112, x51_115, x51_116, x51_117, x51_118, x51_122, x51_123, x51_126, x51_129, x51_130, x51_133, x51_134, x51_137, x51_139, x51_140, x51_141, x51_142, x51_144, x51_145, x51_146, x51_147, x51_148, x51_151, x51_152, x51_155, x51_157, x51_158, x51_161, x51_162, x51_163, x51_166, x51_169, x51_170, x51_173, x51_176, x51_177, x51_180, x51_181, x51_182, x51_185, x51_187, x51_188, x51_189, x51_190, x51_191, x51_194, x51_195, x51_196, x51_199, x51_201, x51_202, x51_203, x51_204, x51_207, x51_210, x51_211, x51_212, x51_215, x51_216, x51_217, x51_220, x51_221, x51_222, x51_223, x51_226, x51_229, x51_232, x51_235, fcn_0_44, fcn_0_46, fcn_0_48, fcn_0_49, fcn_0_59, fcn_0_60, fcn_0_64, if_true, if_false, eq_self, Int.reduceEq, Int.reduceLT, Int.reduceLE, Int.reduceAdd, Int.reduceSub, Int.reduceMul, Int.reduceToNat, Nat.reduceAdd, Nat.reduceMul, Nat.reduceEqDiff, Int.toNat_natCast, wrap_id, e1, z1, y1, q1, zcI_r, hlw]
    · rw [if_neg h4]
      obtain ⟨s1, q1, q2⟩ := t_become (d := d) (g := g) (val := val) (W := W) (v0 := st g) (now := .null) hd (by omega) l4' l7 l2 i6 l3 l5 i2 l6 (i3 g (by omega)) (by unfold vF; rfl) z5
      refine ⟨s1, ?_, q2⟩
      simp (disch := first | exact obC_0 | omega | (simp only [aN1_35, aN1_37, aN1_39, aN1_40, aN1_44, aN1_45, aN2_49]; omega) | (simp only [List.length_cons, List.length_nil]; omega)) only [en51, x51_0, x51_1, x51_2, x51_3, x51_5, x51_6, x51_9, x51_12, x51_13, x51_16, x51_18, x51_19, x51_20, x51_21, x51_22, x51_23, x51_26, x51_27, x51_28, x51_29, x51_32, x51_33, x51_34, x51_37, x51_38, x51_41, x51_43, x51_44, x51_45, x51_46, x51_49, x51_50, x51_53, x51_54, x51_55, x51_56, x51_59, x51_60, x51_61, x51_64, x51_65, x51_68, x51_69, x51_70, x51_73, x51_74, x51_75, x51_76, x51_79, x51_82, x51_85, x51_89, x51_92, x51_93, x51_95, x51_96, x51_99, x51_102, x51_103, x51_106, x51_107, x51_108, x51_111, x51_112, x51_115, x51_116, x51_117, x51_118, x51_122, x51_123, x51_126, x51_129, x51_130, x51_133, x51_134, x51_137, x51_139, x51_140, x51_141, x51_142, x51_144, x51_145, x51_146, x51_147, x51_148, x51_151, x51_152, x51_155, x51_157, x51_158, x51_161, x51_162, x51_163, x51_166, x51_169, x51_170, x51_173, x51_176, x51_177, x51_180, x51_181, x51_182, x51_185, x51_187, x51_188, x51_189, x51_190, x51_191, x51_194, x51_195, x51_196, x51_199, x51_201, x51_202, x51_203, x51_204, x51_207, x51_210, x51_211, x51_212, x51_215, x51_216, x51_217, x51_220, x51_221, x51_222, x51_223, x51_226, x51_229, x51_232, x51_235, fcn_0_44, fcn_0_46, fcn_0_48, fcn_0_49, fcn_0_59, fcn_0_60, fcn_0_64, if_true, if_false, eq_self, Int.reduceEq, Int.reduceLT, Int.reduceLE, Int.reduceAdd, Int.reduceSub, Int.reduceMul, Int.reduceToNat, Nat.reduceAdd, Nat.reduceMul, Nat.reduceEqDiff, Int.toNat_natCast, wrap_id, e1, z1, if_neg (show ¬ (x.1 : Int) = 4 by omega), q1, zcI_r, hlw]
  generalize hv : rhs sg lo W st val g x = v at hz
  generalize hs2 : mu (mu s1 44 g v) 49 g 1 = s2 at hz
  have F2 : Fr FEv s s2 := by
    rw [← hs2]
    exact Fr.mu (S := FEv) (Fr.mu (S := FEv) (hf.mono (fun _ _ z => Or.inl z)) (Or.inr ⟨Or.inr rfl, by omega⟩)) (Or.inr ⟨Or.inl rfl, by omega⟩)
  have hne : ∀ k, k ≠ g → vUp val g v k = val k := fun k hk => if_neg hk
  have hgg : vUp val g v g = v := if_pos rfl
  have s1v : ∀ j, s1 44 j = s 44 j := fun j => hf _ _ (by unfold FBc; decide)
  have s1k : ∀ j, s1 49 j = s 49 j := fun j => hf _ _ (by unfold FBc; decide)
  have keep : ∀ (k : Nat) (y : Sg), sg[k]? = some y → ¬ bas y → (∀ h, dpd sg lo k h → K h) → rhs sg lo W st (vUp val g v) k y = rhs sg lo W st val k y := fun k y hy hby hh => rhs_eq hy hby (fun h hd => hne h (fun z => hk (by rw [← z]; exact hh h hd)))
  refine ⟨s2, v, by rw [eg]; exact hz, ⟨LV_ev F2 hL, fun j hj => ?_, fun j hj => ?_, fun j hj => ⟨fun z => ?_, fun z => ?_⟩, fun k y hy hky => ?_, fun h hh => ?_, fun k y hy hby => Or.inl (i7 k y hy hby)⟩, F2⟩
  · rw [← hs2, mu_c (by decide)]
    by_cases hjg : j = g
    · rw [hjg, mu_s, hgg]
    · rw [mu_i hjg, hne j hjg, s1v, i2 j hj]
  · rw [F2 _ _ (by unfold FEv FBc; omega), i3 j hj]
  · rw [← hs2]
    by_cases hjg : j = g
    · rw [hjg, mu_s]
    · rw [mu_i hjg, mu_c (by decide), s1k]
      exact (i4 j hj).1 (z.resolve_right hjg)
  · rw [← hs2, mu_i (fun y => z (Or.inr y)), mu_c (by decide), s1k]
    exact (i4 j hj).2 (fun y => z (Or.inl y))
  · by_cases hkg : k = g
    · subst hkg
      rw [hx] at hy
      cases hy
      refine ⟨fun y => absurd y hb, fun _ => ⟨?_, fun h hh => Or.inl (hdp h hh)⟩⟩
      rw [hgg, keep k x hx hb hdp, hv]
    · have hKk := hky.resolve_right hkg
      obtain ⟨w1, w2⟩ := i5 k y hy hKk
      rw [hne k hkg]
      refine ⟨w1, fun hby => ⟨?_, fun h hh => Or.inl ((w2 hby).2 h hh)⟩⟩
      rw [keep k y hy hby (w2 hby).2]
      exact (w2 hby).1
  · by_cases hhg : h = g
    · rw [hhg, hgg, ← hv]
      unfold rhs
      by_cases h4 : x.1 = 4
      · rw [if_pos h4]
        obtain ⟨n, -, -, -, -, y5⟩ := z7 h4
        rw [← y5]
        exact vE_mask
      · rw [if_neg h4]
        exact iand_idem _ _
    · rw [hne h hhg]
      exact i6 h hh
theorem ev_for {d : Nat} {sg : List Sg} {lo : List Lo} {W : Nat → Nat} {st : Nat → Int} (hd : 4 ≤ d) : ∀ (m g : Nat) (val : Nat → Int) (K : Nat → Prop) (s : Mem) (l3 l4 : AV), g + m = sg.length → EVI s sg lo W st val K →
    ∃ s' val' K' l3' l4', Ze d 51 94 [aR 0, aI (cntP (fun j => ¬ K j) sg.length), aI g, l3, l4] [] s = Ze d 51 88 [aR 0, aI (cntP (fun j => ¬ K' j) sg.length), aI sg.length, l3', l4'] [] s' ∧ EVI s' sg lo W st val' K' ∧ (∀ j, K j → K' j) ∧ ((∃ j, j < sg.length ∧ K' j ∧ ¬ K j) ∨ (∀ j, g ≤ j → j < sg.length → ¬ K j → ∃ h, dpd sg lo j h ∧ ¬ K h)) ∧ Fr FEv s s' := by
  intro m
  induction m with
  | zero =>
    intro g val K s l3 l4 hg hI
    refine ⟨s, val, K, l3, l4, ?_, hI, fun j h => h, Or.inr (fun j h1 h2 => by omega), Fr.rf s⟩
    rw [show g = sg.length by omega, x51_94]
    simp (disch := first | exact obC_0 | omega | (simp only [aN1_35, aN1_37, aN1_39, aN1_40, aN1_44, aN1_45, aN2_49]; omega) | (simp only [List.length_cons, List.length_nil]; omega)) only [en51, x51_0, x51_1, x51_2, x51_3, x51_5, x51_6, x51_9, x51_12, x51_13, x51_16, x51_18, x51_19, x51_20, x51_21, x51_22, x51_23, x51_26, x51_27, x51_28, x51_29, x51_32, x51_33, x51_34, x51_37, x51_38, x51_41, x51_43, x51_44, x51_45, x51_46, x51_49, x51_50, x51_53, x51_54, x51_55, x51_56, x51_59, x51_60, x51_61, x51_64, x51_65, x51_68, x51_69, x51_70, x51_73, x51_74, x51_75, x51_76, x51_79, x51_82, x51_85, x51_89, x51_92, x51_93, x51_95, x51_96, x51_99, x51_102, x51_103, x51_106, x51_107, x51_108, x51_111, x51_112, x51_115, x51_116, x51_117, x51_118, x51_122, x51_123, x51_126, x51_129, x51_130, x51_133, x51_134, x51_137, x51_139, x51_140, x51_141, x51_142, x51_144, x51_145, x51_146, x51_147, x51_148, x51_151, x51_152, x51_155, x51_157, x51_158, x51_161, x51_162, x51_163, x51_166, x51_169, x51_170, x51_173, x51_176, x51_177, x51_180, x51_181, x51_182, x51_185, x51_187, x51_188, x51_189, x51_190, x51_191, x51_194, x51_195, x51_196, x51_199, x51_201, x51_202, x51_203, x51_204, x51_207, x51_210, x51_211, x51_212, x51_215, x51_216, x51_217, x51_220, x51_221, x51_222, x51_223, x51_226, x51_229, x51_232, x51_235, fcn_0_44, fcn_0_46, fcn_0_48, fcn_0_49, fcn_0_59, fcn_0_60, fcn_0_64, if_true, if_false, eq_self, Int.reduceEq, Int.reduceLT, Int.reduceLE, Int.reduceAdd, Int.reduceSub, Int.reduceMul, Int.reduceToNat, Nat.reduceAdd, Nat.reduceMul, Nat.reduceEqDiff, Int.toNat_natCast, wrap_id, hI.1.1, if_neg (show ¬ (sg.length : Int) < sg.length by omega)]
  | succ m ih =>
    intro g val K s l3 l4 hg hI
    have hgl : g < sg.length := by omega
    have hlt : (g : Int) < sg.length := by omega
    obtain ⟨x, hx⟩ : ∃ x, sg[g]? = some x := ⟨_, List.getElem?_eq_getElem hgl⟩
    have hl24 := hI.1.2.1
    have hl1 := hI.1.1
    have hl8 := hI.1.2.2.2.2.2.2.2.1
    obtain ⟨k1, k0⟩ := hI.2.2.2.1 g hgl
    obtain ⟨b0, hb0, hz0⟩ : ∃ b0 : Bool, (b0 = true ↔ ¬ K g) ∧ Ze d 51 94 [aR 0, aI (cntP (fun j => ¬ K j) sg.length), aI g, l3, l4] [] s = Ze d 51 120 [aR 0, aI (cntP (fun j => ¬ K j) sg.length), aI g, aI (b2i b0), aI ((0 : Nat) : Int)] [] s := by
      have z0 : ((0 : Nat) : Int) = 0 := rfl
      by_cases hk : K g
      · refine ⟨false, ⟨fun z => (nomatch z), fun z => absurd hk z⟩, ?_⟩
        rw [z0, show b2i false = 0 from rfl, x51_94]
        simp (disch := first | exact obC_0 | omega | (simp only [aN1_35, aN1_37, aN1_39, aN1_40, aN1_44, aN1_45, aN2_49]; omega) | (simp only [List.length_cons, List.length_nil]; omega)) only [en51, x51_0, x51_1, x51_2, x51_3, x51_5, x51_6, x51_9, x51_12, x51_13, x51_16, x51_18, x51_19, x51_20, x51_21, x51_22, x51_23, x51_26, x51_27, x51_28, x51_29, x51_32, x51_33, x51_34, x51_37, x51_38, x51_41, x51_43, x51_44, x51_45, x51_46, x51_49, x51_50, x51_53, x51_54, x51_55, x51_56, x51_59, x51_60, x51_61, x51_64, x51_65, x51_68, x51_69, x51_70, x51_73, x51_74, x51_75, x51_76, x51_79, x51_82, x51_85, x51_89, x51_92, x51_93, x51_95, x51_96, x51_99, x51_102, x51_103, x51_106, x51_107, x51_108, x51_111, x51_112, x51_115, x51_116, x51_117, x51_118, x51_122, x51_123, x51_126, x51_129, x51_130, x51_133, x51_134, x51_137, x51_139, x51_140, x51_141, x51_142, x51_144, x51_145, x51_146, x51_147, x51_148, x51_151, x51_152, x51_155, x51_157, x51_158, x51_161, x51_162, x51_163, x51_166, x51_169, x51_170, x51_173, x51_176, x51_177, x51_180, x51_181, x51_182, x51_185, x51_187, x51_188, x51_189, x51_190, x51_191, x51_194, x51_195, x51_196, x51_199, x51_201, x51_202, x51_203, x51_204, x51_207, x51_210, x51_211, x51_212, x51_215, x51_216, x51_217, x51_220, x51_221, x51_222, x51_223, x51_226, x51_229, x51_232, x51_235, fcn_0_44, fcn_0_46, fcn_0_48, fcn_0_49, fcn_0_59, fcn_0_60, fcn_0_64, if_true, if_false, eq_self, Int.reduceEq, Int.reduceLT, Int.reduceLE, Int.reduceAdd, Int.reduceSub, Int.reduceMul, Int.reduceToNat, Nat.reduceAdd, Nat.reduceMul, Nat.reduceEqDiff, Int.toNat_natCast, wrap_id, hl1, if_pos hlt, k1 hk]
      · refine ⟨true, ⟨fun _ => hk, fun _ => rfl⟩, ?_⟩
        rw [z0, show b2i true = 1 from rfl, x51_94]
        simp (disch := first | exact obC_0 | omega | (simp only [aN1_35, aN1_37, aN1_39, aN1_40, aN1_44, aN1_45, aN2_49]; omega) | (simp only [List.length_cons, List.length_nil]; omega)) only [en51, x51_0, x51_1, x51_2, x51_3, x51_5, x51_6, x51_9, x51_12, x51_13, x51_16, x51_18, x51_19, x51_20, x51_21, x51_22, x51_23, x51_26, x51_27, x51_28, x51_29, x51_32, x51_33, x51_34, x51_37, x51_38, x51_41, x51_43, x51_44, x51_45, x51_46, x51_49, x51_50, x51_53, x51_54, x51_55, x51_56, x51_59, x51_60, x51_61, x51_64, x51_65, x51_68, x51_69, x51_70, x51_73, x51_74, x51_75, x51_76, x51_79, x51_82, x51_85, x51_89, x51_92, x51_93, x51_95, x51_96, x51_99, x51_102, x51_103, x51_106, x51_107, x51_108, x51_111, x51_112, x51_115, x51_116, x51_117, x51_118, x51_122, x51_123, x51_126, x51_129, x51_130, x51_133, x51_134, x51_137, x51_139, x51_140, x51_141, x51_142, x51_144, x51_145, x51_146, x51_147, x51_148, x51_151, x51_152, x51_155, x51_157, x51_158, x51_161, x51_162, x51_163, x51_166, x51_169, x51_170, x51_173, x51_176, x51_177, x51_180, x51_181, x51_182, x51_185, x51_187, x51_188, x51_189, x51_190, x51_191, x51_194, x51_195, x51_196, x51_199, x51_201, x51_202, x51_203, x51_204, x51_207, x51_210, x51_211, x51_212, x51_215, x51_216, x51_217, x51_220, x51_221, x51_222, x51_223, x51_226, x51_229, x51_232, x51_235, fcn_0_44, fcn_0_46, fcn_0_48, fcn_0_49, fcn_0_59, fcn_0_60, fcn_0_64, if_true, if_false, eq_self, Int.reduceEq, Int.reduceLT, Int.reduceLE, Int.reduceAdd, Int.reduceSub, Int.reduceMul, Int.reduceToNat, Nat.reduceAdd, Nat.reduceMul, Nat.reduceEqDiff, Int.toNat_natCast, wrap_id, hl1, if_pos hlt, k0 hk]
    obtain ⟨b', l4', q1, q2⟩ := ev_ready (d := d) (left := cntP (fun j => ¬ K j) sg.length) hgl hI.1 hI.2.2.2.1 sg.length 0 b0 (Nat.zero_add _)
    cases b' with
    | false =>
      have hz : Ze d 51 169 [aR 0, aI (cntP (fun j => ¬ K j) sg.length), aI g, aI (b2i false), l4'] [] s = Ze d 51 94 [aR 0, aI (cntP (fun j => ¬ K j) sg.length), aI ((g + 1 : Nat) : Int), aI 0, l4'] [] s := by
        rw [show ((g + 1 : Nat) : Int) = (g : Int) + 1 by omega, show b2i false = 0 from rfl]
        simp (disch := first | exact obC_0 | omega | (simp only [aN1_35, aN1_37, aN1_39, aN1_40, aN1_44, aN1_45, aN2_49]; omega) | (simp only [List.length_cons, List.length_nil]; omega)) only [en51, x51_0, x51_1, x51_2, x51_3, x51_5, x51_6, x51_9, x51_12, x51_13, x51_16, x51_18, x51_19, x51_20, x51_21, x51_22, x51_23, x51_26, x51_27, x51_28, x51_29, x51_32, x51_33, x51_34, x51_37, x51_38, x51_41, x51_43, x51_44, x51_45, x51_46, x51_49, x51_50, x51_53, x51_54, x51_55, x51_56, x51_59, x51_60, x51_61, x51_64, x51_65, x51_68, x51_69, x51_70, x51_73, x51_74, x51_75, x51_76, x51_79, x51_82, x51_85, x51_89, x51_92, x51_93, x51_95, x51_96, x51_99, x51_102, x51_103, x51_106, x51_107, x51_108, x51_111, x51_112, x51_115, x51_116, x51_117, x51_118, x51_122, x51_123, x51_126, x51_129, x51_130, x51_133, x51_134, x51_137, x51_139, x51_140, x51_141, x51_142, x51_144, x51_145, x51_146, x51_147, x51_148, x51_151, x51_152, x51_155, x51_157, x51_158, x51_161, x51_162, x51_163, x51_166, x51_169, x51_170, x51_173, x51_176, x51_177, x51_180, x51_181, x51_182, x51_185, x51_187, x51_188, x51_189, x51_190, x51_191, x51_194, x51_195, x51_196, x51_199, x51_201, x51_202, x51_203, x51_204, x51_207, x51_210, x51_211, x51_212, x51_215, x51_216, x51_217, x51_220, x51_221, x51_222, x51_223, x51_226, x51_229, x51_232, x51_235, fcn_0_44, fcn_0_46, fcn_0_48, fcn_0_49, fcn_0_59, fcn_0_60, fcn_0_64, if_true, if_false, eq_self, Int.reduceEq, Int.reduceLT, Int.reduceLE, Int.reduceAdd, Int.reduceSub, Int.reduceMul, Int.reduceToNat, Nat.reduceAdd, Nat.reduceMul, Nat.reduceEqDiff, Int.toNat_natCast, wrap_id]
      obtain ⟨s', val', K', a3, a4, p1, p2, p3, p4, p5⟩ := ih (g + 1) val K s (aI 0) l4' (by omega) hI
      refine ⟨s', val', K', a3, a4, ((hz0.trans q1).trans hz).trans p1, p2, p3, p4.imp id (fun z j h1 h2 h3 => ?_), p5⟩
      by_cases hjg : j = g
      · subst hjg
        refine Classical.byContradiction (fun y => ?_)
        have : false = true := q2.mpr ⟨hb0.mpr h3, fun h _ _ hd => Classical.byContradiction (fun w => y ⟨h, hd, w⟩)⟩
        exact (nomatch this)
      · exact z j (by omega) h2 h3
    | true =>
      obtain ⟨w1, w2⟩ := q2.mp rfl
      have hk := hb0.mp w1
      have hcn1 : ∀ n, g < n → cntP (fun j => ¬ K j) n = cntP (fun j => ¬ (K j ∨ j = g)) n + 1 := by
        intro n
        induction n with
        | zero => intro h; omega
        | succ n ihn =>
          intro h
          unfold cntP
          by_cases hgn : g = n
          · subst hgn
            rw [if_pos hk, if_neg (fun z => z (Or.inr rfl))]
            rw [cntP_iff g (P := fun j => ¬ K j) (Q := fun j => ¬ (K j ∨ j = g)) (fun k hk2 => ⟨fun z y => y.elim z (fun y => by omega), fun z y => z (Or.inl y)⟩)]
          · rw [ihn (by omega)]
            by_cases hn : K n
            · rw [if_neg (fun z => z hn), if_neg (fun z => z (Or.inl hn))]
            · rw [if_pos hn, if_pos (fun z => z.elim hn (fun y => hgn y.symm))]
      have hcn2 := hcn1 sg.length hgl
      have hcn3 := cntP_n (P := fun j => ¬ K j) sg.length
      have hcnt : ((cntP (fun j => ¬ K j) sg.length : Nat) : Int) + -1 = ((cntP (fun j => ¬ (K j ∨ j = g)) sg.length : Nat) : Int) := by omega
      obtain ⟨s1, v, r1, r2, r3⟩ := ev_one (d := d) (left := cntP (fun j => ¬ K j) sg.length) (l4 := l4') hd hx hI hk ⟨by omega, by omega⟩ (fun h hh => w2 h (Nat.zero_le _) (hl8 g h hh) hh)
      rw [hcnt] at r1
      obtain ⟨s', val', K', a3, a4, p1, p2, p3, p4, p5⟩ := ih (g + 1) _ (fun j => K j ∨ j = g) s1 (aI 1) l4' (by omega) r2
      rw [show b2i true = 1 from rfl] at q1
      exact ⟨s', val', K', a3, a4, ((hz0.trans q1).trans r1).trans p1, p2, fun j hj => p3 j (Or.inl hj), Or.inl ⟨g, hgl, p3 g (Or.inr rfl), hk⟩, r3.tr p5⟩
theorem ev_while {d : Nat} {sg : List Sg} {lo : List Lo} {W : Nat → Nat} {st : Nat → Int} (hd : 4 ≤ d) (hc : ∀ g, g < sg.length → ¬ cyc (dpd sg lo) (rgs sg) g) : ∀ (f : Nat) (val : Nat → Int) (K : Nat → Prop) (s : Mem) (l2 l3 l4 : AV), cntP (fun j => ¬ K j) sg.length ≤ f → EVI s sg lo W st val K →
    ∃ s' val' K', Ze d 51 88 [aR 0, aI (cntP (fun j => ¬ K j) sg.length), l2, l3, l4] [] s = rV s' ∧ EVI s' sg lo W st val' K' ∧ (∀ j, j < sg.length → K' j) ∧ Fr FEv s s' := by
  intro f
  induction f with
  | zero =>
    intro val K s l2 l3 l4 hf hI
    have h0 : cntP (fun j => ¬ K j) sg.length = 0 := by omega
    refine ⟨s, val, K, ?_, hI, fun j hj => Classical.not_not.mp (cntP_0 _ h0 j hj), Fr.rf s⟩
    rw [h0, show ((0 : Nat) : Int) = 0 from rfl, x51_88]
    simp (disch := first | exact obC_0 | omega | (simp only [aN1_35, aN1_37, aN1_39, aN1_40, aN1_44, aN1_45, aN2_49]; omega) | (simp only [List.length_cons, List.length_nil]; omega)) only [en51, x51_0, x51_1, x51_2, x51_3, x51_5, x51_6, x51_9, x51_12, x51_13, x51_16, x51_18, x51_19, x51_20, x51_21, x51_22, x51_23, x51_26, x51_27, x51_28, x51_29, x51_32, x51_33, x51_34, x51_37, x51_38, x51_41, x51_43, x51_44, x51_45, x51_46, x51_49, x51_50, x51_53, x51_54, x51_55, x51_56, x51_59, x51_60, x51_61, x51_64, x51_65, x51_68, x51_69, x51_70, x51_73, x51_74, x51_75, x51_76, x51_79, x51_82, x51_85, x51_89, x51_92, x51_93, x51_95, x51_96, x51_99, x51_102, x51_103, x51_106, x51_107, x51_108, x51_111, x51_112, x51_115, x51_116, x51_117, x51_118, x51_122, x51_123, x51_126, x51_129, x51_130, x51_133, x51_134, x51_137, x51_139, x51_140, x51_141, x51_142, x51_144, x51_145, x51_146, x51_147, x51_148, x51_151, x51_152, x51_155, x51_157, x51_158, x51_161, x51_162, x51_163, x51_166, x51_169, x51_170, x51_173, x51_176, x51_177, x51_180, x51_181, x51_182, x51_185, x51_187, x51_188, x51_189, x51_190, x51_191, x51_194, x51_195, x51_196, x51_199, x51_201, x51_202, x51_203, x51_204, x51_207, x51_210, x51_211, x51_212, x51_215, x51_216, x51_217, x51_220, x51_221, x51_222, x51_223, x51_226, x51_229, x51_232, x51_235, fcn_0_44, fcn_0_46, fcn_0_48, fcn_0_49, fcn_0_59, fcn_0_60, fcn_0_64, if_true, if_false, eq_self, Int.reduceEq, Int.reduceLT, Int.reduceLE, Int.reduceAdd, Int.reduceSub, Int.reduceMul, Int.reduceToNat, Nat.reduceAdd, Nat.reduceMul, Nat.reduceEqDiff, Int.toNat_natCast, wrap_id]
  | succ f ih =>
    intro val K s l2 l3 l4 hf hI
    by_cases h0 : cntP (fun j => ¬ K j) sg.length = 0
    · refine ⟨s, val, K, ?_, hI, fun j hj => Classical.not_not.mp (cntP_0 _ h0 j hj), Fr.rf s⟩
      rw [h0, show ((0 : Nat) : Int) = 0 from rfl, x51_88]
      simp (disch := first | exact obC_0 | omega | (simp only [aN1_35, aN1_37, aN1_39, aN1_40, aN1_44, aN1_45, aN2_49]; omega) | (simp only [List.length_cons, List.length_nil]; omega)) only [en51, x51_0, x51_1, x51_2, x51_3, x51_5, x51_6, x51_9, x51_12, x51_13, x51_16, x51_18, x51_19, x51_20, x51_21, x51_22, x51_23, x51_26, x51_27, x51_28, x51_29, x51_32, x51_33, x51_34, x51_37, x51_38, x51_41, x51_43, x51_44, x51_45, x51_46, x51_49, x51_50, x51_53, x51_54, x51_55, x51_56, x51_59, x51_60, x51_61, x51_64, x51_65, x51_68, x51_69, x51_70, x51_73, x51_74, x51_75, x51_76, x51_79, x51_82, x51_85, x51_89, x51_92, x51_93, x51_95, x51_96, x51_99, x51_102, x51_103, x51_106, x51_107, x51_108, x51_111, x51_112, x51_115, x51_116, x51_117, x51_118, x51_122, x51_123, x51_126, x51_129, x51_130, x51_133, x51_134, x51_137, x51_139, x51_140, x51_141, x51_142, x51_144, x51_145, x51_146, x51_147, x51_148, x51_151, x51_152, x51_155, x51_157, x51_158, x51_161, x51_162, x51_163, x51_166, x51_169, x51_170, x51_173, x51_176, x51_177, x51_180, x51_181, x51_182, x51_185, x51_187, x51_188, x51_189, x51_190, x51_191, x51_194, x51_195, x51_196, x51_199, x51_201, x51_202, x51_203, x51_204, x51_207, x51_210, x51_211, x51_212, x51_215, x51_216, x51_217, x51_220, x51_221, x51_222, x51_223, x51_226, x51_229, x51_232, x51_235, fcn_0_44, fcn_0_46, fcn_0_48, fcn_0_49, fcn_0_59, fcn_0_60, fcn_0_64, if_true, if_false, eq_self, Int.reduceEq, Int.reduceLT, Int.reduceLE, Int.reduceAdd, Int.reduceSub, Int.reduceMul, Int.reduceToNat, Nat.reduceAdd, Nat.reduceMul, Nat.reduceEqDiff, Int.toNat_natCast, wrap_id]
    · have hz : Ze d 51 88 [aR 0, aI (cntP (fun j => ¬ K j) sg.length), l2, l3, l4] [] s = Ze d 51 94 [aR 0, aI (cntP (fun j => ¬ K j) sg.length), aI ((0 : Nat) : Int), l3, l4] [] s := by
        rw [show ((0 : Nat) : Int) = 0 from rfl, x51_88]
        generalize cntP (fun j => ¬ K j) sg.length = q at *
        simp (disch := first | exact obC_0 | omega | (simp only [aN1_35, aN1_37, aN1_39, aN1_40, aN1_44, aN1_45, aN2_49]; omega) | (simp only [List.length_cons, List.length_nil]; omega)) only [en51, x51_0, x51_1, x51_2, x51_3, x51_5, x51_6, x51_9, x51_12, x51_13, x51_16, x51_18, x51_19, x51_20, x51_21, x51_22, x51_23, x51_26, x51_27, x51_28, x51_29, x51_32, x51_33, x51_34, x51_37, x51_38, x51_41, x51_43, x51_44, x51_45, x51_46, x51_49, x51_50, x51_53, x51_54, x51_55, x51_56, x51_59, x51_60, x51_61, x51_64, x51_65, x51_68, x51_69, x51_70, x51_73, x51_74, x51_75, x51_76, x51_79, x51_82, x51_85, x51_89, x51_92, x51_93, x51_95, x51_96, x51_99, x51_102, x51_103, x51_106, x51_107, x51_108, x51_111, x51_112, x51_115, x51_116, x51_117, x51_118, x51_122, x51_123, x51_126, x51_129, x51_130, x51_133, x51_134, x51_137, x51_139, x51_140, x51_141, x51_142, x51_144, x51_145, x51_146, x51_147, x51_148, x51_151, x51_152, x51_155, x51_157, x51_158, x51_161, x51_162, x51_163, x51_166, x51_169, x51_170, x51_173, x51_176, x51_177, x51_180, x51_181, x51_182, x51_185, x51_187, x51_188, x51_189, x51_190, x51_191, x51_194, x51_195, x51_196, x51_199, x51_201, x51_202, x51_203, x51_204, x51_207, x51_210, x51_211, x51_212, x51_215, x51_216, x51_217, x51_220, x51_221, x51_222, x51_223, x51_226, x51_229, x51_232, x51_235, fcn_0_44, fcn_0_46, fcn_0_48, fcn_0_49, fcn_0_59, fcn_0_60, fcn_0_64, if_true, if_false, eq_self, Int.reduceEq, Int.reduceLT, Int.reduceLE, Int.reduceAdd, Int.reduceSub, Int.reduceMul, Int.reduceToNat, Nat.reduceAdd, Nat.reduceMul, Nat.reduceEqDiff, Int.toNat_natCast, wrap_id, if_pos (show 0 < (q : Int) by omega)]
      obtain ⟨s1, val1, K1, a3, a4, p1, p2, p3, p4, p5⟩ := ev_for (d := d) hd sg.length 0 val K s l3 l4 (Nat.zero_add _) hI
      have prog : ∃ j, j < sg.length ∧ K1 j ∧ ¬ K j := by
        rcases p4 with z | z
        · exact z
        · exfalso
          have hall := acyc (D := dpd sg lo) (rg := rgs sg) (K := K) (L := sg.length) hI.1.2.1 (fun g h hd => ⟨by obtain ⟨x, hx, -⟩ := hd; exact (List.getElem?_eq_some_iff.mp hx).1, hI.1.2.2.2.2.2.2.2.1 g h hd⟩) hc (fun g hg hk hr => by
            obtain ⟨x, hx, h3⟩ := hr
            exact hk (hI.2.2.2.2.2.2 g x hx (Or.inl h3))) (fun g hg hk => z g (Nat.zero_le _) hg hk)
          have : ∀ n, n ≤ sg.length → cntP (fun j => ¬ K j) n = 0 := by
            intro n
            induction n with
            | zero => intro _; rfl
            | succ n ihn =>
              intro hn
              unfold cntP
              rw [ihn (by omega), if_neg (fun y => y (hall n (by omega)))]
          exact h0 (this _ (Nat.le_refl _))
      obtain ⟨j, j1, j2, j3⟩ := prog
      have hlt : cntP (fun j => ¬ K1 j) sg.length < cntP (fun j => ¬ K j) sg.length := cntP_lt (fun k z y => z (p3 k y)) (m := j) j3 (fun z => z j2) _ j1
      obtain ⟨s', val', K', q1, q2, q3, q4⟩ := ih val1 K1 s1 (aI sg.length) a3 a4 (by omega) p2
      exact ⟨s', val', K', (hz.trans p1).trans q1, q2, q3, p5.tr q4⟩
/-- the values of a circuit whose registers and free signals are st -/
def EV (sg : List Sg) (lo : List Lo) (W : Nat → Nat) (st val : Nat → Int) : Prop := ∀ (g : Nat) (x : Sg), sg[g]? = some x → (bas x → val g = st g) ∧ (¬ bas x → val g = rhs sg lo W st val g x)
theorem t_evaluate {d : Nat} {sg : List Sg} {lo : List Lo} {W : Nat → Nat} {st val : Nat → Int} {s : Mem} (hd : 5 ≤ d) (hL : LV s sg lo W) (hc : ∀ g, g < sg.length → ¬ cyc (dpd sg lo) (rgs sg) g) (hst : ∀ j, j < 24 → s 45 j = st j) (hv : ∀ j, j < 24 → s 44 j = val j) (hsm : ∀ h, h < sg.length → iand (st h) (msk (W h)) = st h) (hvm : ∀ h, h < sg.length → iand (val h) (msk (W h)) = val h) :
    ∃ s' val', Zc d 51 [aR 0] s = rV s' ∧ LV s' sg lo W ∧ (∀ j, j < 24 → s' 44 j = val' j) ∧ EV sg lo W st val' ∧ (∀ h, h < sg.length → iand (val' h) (msk (W h)) = val' h) ∧ Fr FEv s s' := by
  obtain ⟨d, rfl⟩ : ∃ e, d = e + 1 := ⟨d - 1, by omega⟩
  have hl24 := hL.2.1
  have hKx : ∀ (g : Nat) (x : Sg), sg[g]? = some x → ((∃ y, sg[g]? = some y ∧ ¬ bas y) ↔ ¬ bas x) := fun g x hx => ⟨fun ⟨y, hy, hb⟩ => by rw [hx] at hy; cases hy; exact hb, fun hb => ⟨x, hx, hb⟩⟩
  obtain ⟨s1, l3, q1, q2, q3, q4⟩ := ev_first (d := d) (K := fun g => ∃ y, sg[g]? = some y ∧ ¬ bas y) hKx sg.length 0 s aU aU (Nat.zero_add _) hL hst
  have hin : Zc (d + 1) 51 [aR 0] s = Ze d 51 4 [aR 0, aI (cntP (fun g => ∃ y, sg[g]? = some y ∧ ¬ bas y) 0), aI ((0 : Nat) : Int), aU, aU] [] s := by
    have z0 : ((0 : Nat) : Int) = 0 := rfl
    rw [show cntP (fun g => ∃ y, sg[g]? = some y ∧ ¬ bas y) 0 = 0 from rfl, z0]
    simp (disch := first | exact obC_0 | omega | (simp only [aN1_35, aN1_37, aN1_39, aN1_40, aN1_44, aN1_45, aN2_49]; omega) | (simp only [List.length_cons, List.length_nil]; omega)) only [en51, x51_0, x51_1, x51_2, x51_3, x51_5, x51_6, x51_9, x51_12, x51_13, x51_16, x51_18, x51_19, x51_20, x51_21, x51_22, x51_23, x51_26, x51_27, x51_28, x51_29, x51_32, x51_33, x51_34, x51_37, x51_38, x51_41, x51_43, x51_44, x51_45, x51_46, x51_49, x51_50, x51_53, x51_54, x51_55, x51_56, x51_59, x51_60, x51_61, x51_64, x51_65, x51_68, x51_69, x51_70, x51_73, x51_74, x51_75, x51_76, x51_79, x51_82, x51_85, x51_89, x51_92, x51_93, x51_95, x51_96, x51_99, x51_102, x51_103, x51_106, x51_107, x51_108, x51_111, x51_112, x51_115, x51_116, x51_117, x51_118, x51_122, x51_123, x51_126, x51_129, x51_130, x51_133, x51_134, x51_137, x51_139, x51_140, x51_141, x51_142, x51_144, x51_145, x51_146, x51_147, x51_148, x51_151, x51_152, x51_155, x51_157, x51_158, x51_161, x51_162, x51_163, x51_166, x51_169, x51_170, x51_173, x51_176, x51_177, x51_180, x51_181, x51_182, x51_185, x51_187, x51_188, x51_189, x51_190, x51_191, x51_194, x51_195, x51_196, x51_199, x51_201, x51_202, x51_203, x51_204, x51_207, x51_210, x51_211, x51_212, x51_215, x51_216, x51_217, x51_220, x51_221, x51_222, x51_223, x51_226, x51_229, x51_232, x51_235, fcn_0_44, fcn_0_46, fcn_0_48, fcn_0_49, fcn_0_59, fcn_0_60, fcn_0_64, if_true, if_false, eq_self, Int.reduceEq, Int.reduceLT, Int.reduceLE, Int.reduceAdd, Int.reduceSub, Int.reduceMul, Int.reduceToNat, Nat.reduceAdd, Nat.reduceMul, Nat.reduceEqDiff, Int.toNat_natCast, wrap_id]
  have hval1 : ∀ j, j < 24 → s1 44 j = (s1 44 j) := fun _ _ => rfl
  have hI : EVI s1 sg lo W st (fun j => s1 44 j) (fun g => ¬ ∃ y, sg[g]? = some y ∧ ¬ bas y) := by
    refine ⟨LV_ev q4 hL, fun j _ => rfl, fun j hj => by rw [FEv_k q4 (by decide), hst j hj], fun j hj => ?_, fun g x hx hk => ?_, fun h hh => ?_, fun g x hx hb ⟨y, hy, hn⟩ => by rw [hx] at hy; cases hy; exact hn hb⟩
    · obtain ⟨x, hx⟩ : ∃ x, sg[j]? = some x := ⟨_, List.getElem?_eq_getElem hj⟩
      obtain ⟨w1, w2⟩ := q2 j x (Nat.zero_le _) hx
      refine ⟨fun z => (w1 (Classical.not_not.mp (fun y => z ((hKx j x hx).mpr y)))).1, fun z => (w2 ((hKx j x hx).mp (Classical.not_not.mp z))).1⟩
    · have hb : bas x := Classical.not_not.mp (fun y => hk ((hKx g x hx).mpr y))
      exact ⟨fun _ => ((q2 g x (Nat.zero_le _) hx).1 hb).2, fun z => absurd hb z⟩
    · obtain ⟨x, hx⟩ : ∃ x, sg[h]? = some x := ⟨_, List.getElem?_eq_getElem hh⟩
      obtain ⟨w1, w2⟩ := q2 h x (Nat.zero_le _) hx
      show iand (s1 44 h) (msk (W h)) = s1 44 h
      by_cases hb : bas x
      · rw [(w1 hb).2]
        exact hsm h hh
      · rw [(w2 hb).2, hv h (by omega)]
        exact hvm h hh
  have hcn : cntP (fun j => ¬ ¬ ∃ y, sg[j]? = some y ∧ ¬ bas y) sg.length = cntP (fun g => ∃ y, sg[g]? = some y ∧ ¬ bas y) sg.length := cntP_iff _ (fun k _ => Classical.not_not)
  obtain ⟨s', val', K', p1, p2, p3, p4⟩ := ev_while (d := d) (by omega) hc sg.length _ _ s1 (aI sg.length) l3 aU (cntP_n _) hI
  rw [hcn] at p1
  refine ⟨s', val', (hin.trans q1).trans p1, p2.1, p2.2.1, fun g x hx => ?_, p2.2.2.2.2.2.1, q4.tr p4⟩
  obtain ⟨w1, w2⟩ := p2.2.2.2.2.1 g x hx (p3 g (List.getElem?_eq_some_iff.mp hx).1)
  exact ⟨w1, fun z => (w2 z).1⟩
