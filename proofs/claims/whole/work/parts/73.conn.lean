theorem alk_tsz {t u : Jvm.Term} (h : alk t u = true) : tsz t = tsz u := by
  fun_induction alk t u with
  | case1 => rfl
  | case2 n t m u ih =>
    rw [Bool.and_eq_true, decide_eq_true_eq] at h
    obtain ⟨rfl, h⟩ := h
    simp only [tsz, ih h]
  | case3 a b ih => simp only [tsz, ih h]
  | case4 n b t r n' b' t' r' ih1 ih2 =>
    rw [Bool.and_eq_true, Bool.and_eq_true] at h
    simp only [tsz, ih1 h.2.1, ih2 h.2.2]
  | case5 => rfl
  | case6 => exact (nomatch h)
theorem skA_iff {sg : List Sg} {g : Nat} {x : Sg} (h : sg[g]? = some x) : skA sg g ↔ isSk x.1 x.2.2.1 := by
  constructor
  · rintro ⟨y, h1, h2⟩
    rw [h] at h1
    cases h1
    exact h2
  · exact fun z => ⟨x, h, z⟩
theorem t_sk {d N g : Nat} {sg : List Sg} {s : Mem} (hd : 1 ≤ d) (hg : g < sg.length) (h24 : sg.length ≤ 24) (hS : SGs s N sg) : (skA sg g → Zc d 32 [aR 0, aI g] s = rI 1 s) ∧ (¬ skA sg g → Zc d 32 [aR 0, aI g] s = rI 0 s) := by
  obtain ⟨x, hx⟩ : ∃ x, sg[g]? = some x := ⟨_, List.getElem?_eq_getElem hg⟩
  obtain ⟨h1, h2, h3, -⟩ := hS g x hx
  have := t_isSink (d := d) hd s (g := g) (by omega) h1 h3
  rw [skA_iff hx]
  exact this
/-- what a connection's steps leave from the k-th on -/
def cxF (L n : Nat) (c j : Nat) : Prop := (c = 0 ∧ (j = 57 ∨ j = 58)) ∨ (41 ≤ c ∧ c ≤ 43 ∧ L ≤ j ∧ j < n)
theorem lStep_fr {s : Mem} {n L b : Nat} {o g e : Int} (h1 : L ≤ n) (h2 : n < b) : Fr (cxF L b) s (lStep s n o g e) := by
  unfold lStep
  exact ((((Fr.rf s).mu (Or.inr ⟨by decide, by decide, h1, h2⟩)).mu (Or.inr ⟨by decide, by decide, h1, h2⟩)).mu (Or.inr ⟨by decide, by decide, h1, h2⟩)).mu (Or.inl ⟨rfl, Or.inl rfl⟩)
theorem lStep_at {s : Mem} {n : Nat} {o g e : Int} : lStep s n o g e 41 n = o ∧ lStep s n o g e 42 n = g ∧ lStep s n o g e 43 n = e ∧ lStep s n o g e 0 57 = ((n + 1 : Nat) : Int) := by
  unfold lStep
  exact ⟨by rw [mu_c (by decide), mu_c (by decide), mu_c (by decide), mu_s], by rw [mu_c (by decide), mu_c (by decide), mu_s], by rw [mu_c (by decide), mu_s], by rw [mu_s]; rfl⟩
theorem lStep_0 {s : Mem} {n : Nat} {o g e : Int} {j : Nat} (h : j ≠ 57) : lStep s n o g e 0 j = s 0 j := by
  unfold lStep
  rw [mu_i h, mu_c (by decide), mu_c (by decide), mu_c (by decide)]
theorem cx_loop {d M C N L to fr cn0 st : Nat} {e : Nat} {ty : Int} {t : Jvm.Term} {sg : List Sg} (hd : 1 ≤ d) (hM : M ≤ 200) (hC : C ≤ 100) (hz : tsz t ≤ 24) (hdp : dpt t ≤ 9) (hto : to + tsz t ≤ sg.length) (hfr : fr + tsz t ≤ sg.length) (h24 : sg.length ≤ 24) (hL : L + tsz t ≤ 1100) (l3 l6 l8 : AV) : ∀ (m k : Nat) (s : Mem) (l10 l11 l12 : AV), k + m = tsz t → RT s 0 M 0 C true t ty → SGs s N sg → s 0 57 = ((L + k : Nat) : Int) → s 0 58 = ((cn0 + k : Nat) : Int) → cn0 ≤ 1100 →
    ((∀ i, k ≤ i → i < tsz t → skA sg (if (lf t i 0).2 % 2 = 1 then fr + i else to + i)) → ∃ s', Ze d 35 154 [aR 0, aI st, aI e, l3, aI to, aI ty, l6, aI fr, l8, aI k, l10, l11, l12] [] s = rI 1 s' ∧ s' 0 57 = ((L + tsz t : Nat) : Int) ∧ s' 0 58 = ((cn0 + tsz t : Nat) : Int) ∧ (∀ i, k ≤ i → i < tsz t → s' 41 (L + i) = 0 ∧ s' 42 (L + i) = ((if (lf t i 0).2 % 2 = 1 then fr + i else to + i : Nat) : Int) ∧ s' 43 (L + i) = -1 - ((if (lf t i 0).2 % 2 = 1 then to + i else fr + i : Nat) : Int)) ∧ Fr (cxF (L + k) (L + tsz t)) s s') ∧
    ((¬ ∀ i, k ≤ i → i < tsz t → skA sg (if (lf t i 0).2 % 2 = 1 then fr + i else to + i)) → ∃ s', Ze d 35 154 [aR 0, aI st, aI e, l3, aI to, aI ty, l6, aI fr, l8, aI k, l10, l11, l12] [] s = rI 0 s' ∧ Fr (cxF (L + k) (L + tsz t)) s s') := by
  intro m
  induction m with
  | zero =>
    intro k s l10 l11 l12 hk hT hS hlo hcn hc
    obtain ⟨y1, y2, y3, y4⟩ := RT_size hT
    obtain ⟨tyn, htyn⟩ : ∃ a : Nat, ty = a := ⟨ty.toNat, by omega⟩
    subst htyn
    rw [Int.toNat_natCast, show min 25 (tsz t) = tsz t by omega] at y3
    refine ⟨fun _ => ⟨s, ?_, by rw [hlo, ← hk]; rfl, by rw [hcn, ← hk]; rfl, fun i h1 h2 => by omega, Fr.rf s⟩, fun h => absurd (fun i h1 h2 => by omega) h⟩
    rw [x35_154]
    simp (disch := first | exact obC_0 | omega | (simp only [aN1_12, aN1_28, aN1_29, aN1_5]; omega) | (simp only [List.length_cons, List.length_nil]; omega)) only [en35, x35_0, x35_1, x35_4, x35_5, x35_6, x35_7, x35_8, x35_9, x35_12, x35_13, x35_14, x35_17, x35_18, x35_19, x35_22, x35_23, x35_24, x35_25, x35_28, x35_30, x35_31, x35_34, x35_36, x35_37, x35_40, x35_42, x35_44, x35_47, x35_48, x35_49, x35_52, x35_54, x35_56, x35_59, x35_60, x35_62, x35_65, x35_68, x35_69, x35_70, x35_71, x35_72, x35_74, x35_75, x35_78, x35_79, x35_79i, x35_80, x35_83, x35_84, x35_85, x35_88, x35_89, x35_90, x35_91, x35_94, x35_95, x35_96, x35_99, x35_100, x35_101, x35_104, x35_107, x35_108, x35_111, x35_112, x35_113, x35_114, x35_117, x35_118, x35_121, x35_124, x35_125, x35_126, x35_127, x35_130, x35_132, x35_133, x35_135, x35_136, x35_139, x35_142, x35_144, x35_146, x35_149, x35_150, x35_151, x35_152, x35_156, x35_157, x35_160, x35_162, x35_163, x35_166, x35_167, x35_169, x35_171, x35_172, x35_175, x35_176, x35_179, x35_180, x35_183, x35_184, x35_186, x35_188, x35_191, x35_193, x35_195, x35_196, x35_199, x35_201, x35_203, x35_204, x35_206, x35_208, x35_211, x35_213, x35_215, x35_216, x35_219, x35_221, x35_223, x35_224, x35_226, x35_227, x35_229, x35_232, x35_235, x35_236, x35_237, x35_238, x35_239, x35_241, x35_242, x35_244, x35_245, x35_248, x35_249, x35_249i, x35_250, x35_253, x35_254, x35_255, x35_258, x35_261, x35_264, x35_265, fcn_0_19, fcn_0_36, fcn_0_37, fcn_0_9, if_true, if_false, eq_self, Int.reduceEq, Int.reduceLT, Int.reduceLE, Int.reduceAdd, Int.reduceSub, Int.reduceMul, Int.reduceToNat, Nat.reduceAdd, Nat.reduceMul, Nat.reduceEqDiff, Int.toNat_natCast, wrap_id, y3, if_neg (show ¬ (k : Int) < (tsz t : Nat) by omega)]
  | succ m ih =>
    intro k s l10 l11 l12 hk hT hS hlo hcn hc
    obtain ⟨y1, y2, y3, y4⟩ := RT_size hT
    obtain ⟨tyn, htyn⟩ : ∃ a : Nat, ty = a := ⟨ty.toNat, by omega⟩
    subst htyn
    rw [Int.toNat_natCast, show min 25 (tsz t) = tsz t by omega] at y3
    have hl := t_leaf (d := d) hd hM hC s true hT (k := k) (by omega) (by omega) hdp
    rw [if_pos rfl] at hl
    generalize hG : (if (lf t k 0).2 % 2 = 1 then fr + k else to + k) = g
    generalize hH : (if (lf t k 0).2 % 2 = 1 then to + k else fr + k) = h
    have hg : g < sg.length := by rw [← hG]; split <;> omega
    have hh : h < sg.length := by rw [← hH]; split <;> omega
    obtain ⟨sk1, sk0⟩ := t_sk (d := d) hd hg h24 hS
    have hlow := t_step (d := d) hd s hlo (by omega) 0 g (-1 - (h : Int))
    have e1 : (to : Int) + k = ((to + k : Nat) : Int) := rfl
    have e2 : (fr : Int) + k = ((fr + k : Nat) : Int) := rfl
    have head0 : ∀ {Z : Option Res}, (Zc d 32 [aR 0, aI g] s = rI 0 s → Z = rI 0 s) → True := fun _ => trivial
    by_cases hs : skA sg g
    · have hsk := sk1 hs
      obtain ⟨a1, a2, a3, a4⟩ := lStep_at (s := s) (n := L + k) (o := 0) (g := g) (e := -1 - (h : Int))
      have f1 : Fr (cxF (L + k) (L + tsz t)) s (lStep s (L + k) 0 g (-1 - (h : Int))) := lStep_fr (Nat.le_refl _) (by omega)
      have c1 : lStep s (L + k) 0 g (-1 - (h : Int)) 0 58 = ((cn0 + k : Nat) : Int) := by rw [lStep_0 (by decide), hcn]
      generalize lStep s (L + k) 0 g (-1 - (h : Int)) = s1 at *
      generalize hs2 : mu s1 0 58 (((cn0 + k : Nat) : Int) + 1) = s2
      have f2 : Fr (cxF (L + k) (L + tsz t)) s s2 := by rw [← hs2]; exact f1.mu (Or.inl ⟨rfl, Or.inr rfl⟩)
      have k2 : ∀ {c j : Nat}, c ≠ 0 → s2 c j = s1 c j := fun h => by rw [← hs2, mu_c h]
      have hz1 : ∃ l10' l11' l12', Ze d 35 154 [aR 0, aI st, aI e, l3, aI to, aI tyn, l6, aI fr, l8, aI k, l10, l11, l12] [] s = Ze d 35 154 [aR 0, aI st, aI e, l3, aI to, aI tyn, l6, aI fr, l8, aI ((k + 1 : Nat) : Int), l10', l11', l12'] [] s2 := by
        rw [show ((k + 1 : Nat) : Int) = (k : Int) + 1 by omega]
        by_cases hb : (lf t k 0).2 % 2 = 1
        · have hl1 : lfA true (lf t k 0) = 1 := by unfold lfA; rw [if_pos rfl, hb]; rfl
          rw [if_pos hb] at hG hH
          rw [hl1] at hl
          refine ⟨aI 1, aI g, aI h, ?_⟩
          rw [x35_154]
          simp (disch := first | exact obC_0 | omega | (simp only [aN1_12, aN1_28, aN1_29, aN1_5]; omega) | (simp only [List.length_cons, List.length_nil]; omega)) only [en35, x35_0, x35_1, x35_4, x35_5, x35_6, x35_7, x35_8, x35_9, x35_12, x35_13, x35_14, x35_17, x35_18, x35_19, x35_22, x35_23, x35_24, x35_25, x35_28, x35_30, x35_31, x35_34, x35_36, x35_37, x35_40, x35_42, x35_44, x35_47, x35_48, x35_49, x35_52, x35_54, x35_56, x35_59, x35_60, x35_62, x35_65, x35_68, x35_69, x35_70, x35_71, x35_72, x35_74, x35_75, x35_78, x35_79, x35_79i, x35_80, x35_83, x35_84, x35_85, x35_88, x35_89, x35_90, x35_91, x35_94, x35_95, x35_96, x35_99, x35_100, x35_101, x35_104, x35_107, x35_108, x35_111, x35_112, x35_113, x35_114, x35_117, x35_118, x35_121, x35_124, x35_125, x35_126, x35_127, x35_130, x35_132, x35_133, x35_135, x35_136, x35_139, x35_142, x35_144, x35_146, x35_149, x35_150, x35_151, x35_152, x35_156, x35_157, x35_160, x35_162, x35_163, x35_166, x35_167, x35_169, x35_171, x35_172, x35_175, x35_176, x35_179, x35_180, x35_183, x35_184, x35_186, x35_188, x35_191, x35_193, x35_195, x35_196, x35_199, x35_201, x35_203, x35_204, x35_206, x35_208, x35_211, x35_213, x35_215, x35_216, x35_219, x35_221, x35_223, x35_224, x35_226, x35_227, x35_229, x35_232, x35_235, x35_236, x35_237, x35_238, x35_239, x35_241, x35_242, x35_244, x35_245, x35_248, x35_249, x35_249i, x35_250, x35_253, x35_254, x35_255, x35_258, x35_261, x35_264, x35_265, fcn_0_19, fcn_0_36, fcn_0_37, fcn_0_9, if_true, if_false, eq_self, Int.reduceEq, Int.reduceLT, Int.reduceLE, Int.reduceAdd, Int.reduceSub, Int.reduceMul, Int.reduceToNat, Nat.reduceAdd, Nat.reduceMul, Nat.reduceEqDiff, Int.toNat_natCast, wrap_id, y3, hl, zcI_r, zcV_r, e1, e2, hG, hH, hsk, hlow, c1, hs2, if_pos (show (k : Int) < (tsz t : Nat) by omega)]
        · have hl1 : lfA true (lf t k 0) = 0 := by unfold lfA; rw [if_pos rfl, show (lf t k 0).2 % 2 = 0 by omega]; rfl
          rw [if_neg hb] at hG hH
          rw [hl1] at hl
          refine ⟨aI 0, aI g, aI h, ?_⟩
          rw [x35_154]
          simp (disch := first | exact obC_0 | omega | (simp only [aN1_12, aN1_28, aN1_29, aN1_5]; omega) | (simp only [List.length_cons, List.length_nil]; omega)) only [en35, x35_0, x35_1, x35_4, x35_5, x35_6, x35_7, x35_8, x35_9, x35_12, x35_13, x35_14, x35_17, x35_18, x35_19, x35_22, x35_23, x35_24, x35_25, x35_28, x35_30, x35_31, x35_34, x35_36, x35_37, x35_40, x35_42, x35_44, x35_47, x35_48, x35_49, x35_52, x35_54, x35_56, x35_59, x35_60, x35_62, x35_65, x35_68, x35_69, x35_70, x35_71, x35_72, x35_74, x35_75, x35_78, x35_79, x35_79i, x35_80, x35_83, x35_84, x35_85, x35_88, x35_89, x35_90, x35_91, x35_94, x35_95, x35_96, x35_99, x35_100, x35_101, x35_104, x35_107, x35_108, x35_111, x35_112, x35_113, x35_114, x35_117, x35_118, x35_121, x35_124, x35_125, x35_126, x35_127, x35_130, x35_132, x35_133, x35_135, x35_136, x35_139, x35_142, x35_144, x35_146, x35_149, x35_150, x35_151, x35_152, x35_156, x35_157, x35_160, x35_162, x35_163, x35_166, x35_167, x35_169, x35_171, x35_172, x35_175, x35_176, x35_179, x35_180, x35_183, x35_184, x35_186, x35_188, x35_191, x35_193, x35_195, x35_196, x35_199, x35_201, x35_203, x35_204, x35_206, x35_208, x35_211, x35_213, x35_215, x35_216, x35_219, x35_221, x35_223, x35_224, x35_226, x35_227, x35_229, x35_232, x35_235, x35_236, x35_237, x35_238, x35_239, x35_241, x35_242, x35_244, x35_245, x35_248, x35_249, x35_249i, x35_250, x35_253, x35_254, x35_255, x35_258, x35_261, x35_264, x35_265, fcn_0_19, fcn_0_36, fcn_0_37, fcn_0_9, if_true, if_false, eq_self, Int.reduceEq, Int.reduceLT, Int.reduceLE, Int.reduceAdd, Int.reduceSub, Int.reduceMul, Int.reduceToNat, Nat.reduceAdd, Nat.reduceMul, Nat.reduceEqDiff, Int.toNat_natCast, wrap_id, y3, hl, zcI_r, zcV_r, e1, e2, hG, hH, hsk, hlow, c1, hs2, if_pos (show (k : Int) < (tsz t : Nat) by omega)]
      obtain ⟨l10', l11', l12', hz1⟩ := hz1
      have cf : ∀ {c j : Nat}, (1 ≤ c ∧ c ≤ 40) → s2 c j = s c j := fun hc => f2 _ _ (by unfold cxF; omega)
      obtain ⟨i1, i2⟩ := ih (k + 1) s2 l10' l11' l12' (by omega) (RT_put (fun c j z => cf (by omega)) hT) (SGs_put (Nat.le_refl _) (fun c j hc _ _ => cf (by omega)) (fun c j hc _ => cf (by omega)) hS) (by rw [← hs2, mu_i (by decide)]; exact a4) (by rw [← hs2, mu_s]; rfl) hc
      have cxs : ∀ c j, cxF (L + (k + 1)) (L + tsz t) c j → cxF (L + k) (L + tsz t) c j := fun c j z => z.imp id (fun z => ⟨z.1, z.2.1, by omega, z.2.2.2⟩)
      refine ⟨fun hall => ?_, fun hall => ?_⟩
      · obtain ⟨s', p1, p2, p3, p4, p5⟩ := i1 (fun i h1 h2 => hall i (by omega) h2)
        refine ⟨s', hz1.trans p1, p2, p3, fun i h1 h2 => ?_, f2.tr (p5.mono cxs)⟩
        by_cases hik : i = k
        · subst hik
          rw [hG, hH]
          have o : ∀ c, 41 ≤ c ∧ c ≤ 43 → s' c (L + i) = s1 c (L + i) := fun c hc => by rw [p5 _ _ (by unfold cxF; omega), k2 (by omega)]
          exact ⟨by rw [o _ (by decide), a1], by rw [o _ (by decide), a2], by rw [o _ (by decide), a3]⟩
        · exact p4 i (by omega) h2
      · have hn : ¬ ∀ i, k + 1 ≤ i → i < tsz t → skA sg (if (lf t i 0).2 % 2 = 1 then fr + i else to + i) := fun z => hall (fun i h1 h2 => by
          by_cases hik : i = k
          · subst hik
            rw [hG]
            exact hs
          · exact z i (by omega) h2)
        obtain ⟨s', p1, p2⟩ := i2 hn
        exact ⟨s', hz1.trans p1, f2.tr (p2.mono cxs)⟩
    · have hsk := sk0 hs
      refine ⟨fun hall => absurd (by have := hall k (Nat.le_refl _) (by omega); rw [hG] at this; exact this) hs, fun _ => ⟨s, ?_, Fr.rf s⟩⟩
      by_cases hb : (lf t k 0).2 % 2 = 1
      · have hl1 : lfA true (lf t k 0) = 1 := by unfold lfA; rw [if_pos rfl, hb]; rfl
        rw [if_pos hb] at hG hH
        rw [hl1] at hl
        rw [x35_154]
        simp (disch := first | exact obC_0 | omega | (simp only [aN1_12, aN1_28, aN1_29, aN1_5]; omega) | (simp only [List.length_cons, List.length_nil]; omega)) only [en35, x35_0, x35_1, x35_4, x35_5, x35_6, x35_7, x35_8, x35_9, x35_12, x35_13, x35_14, x35_17, x35_18, x35_19, x35_22, x35_23, x35_24, x35_25, x35_28, x35_30, x35_31, x35_34, x35_36, x35_37, x35_40, x35_42, x35_44, x35_47, x35_48, x35_49, x35_52, x35_54, x35_56, x35_59, x35_60, x35_62, x35_65, x35_68, x35_69, x35_70, x35_71, x35_72, x35_74, x35_75, x35_78, x35_79, x35_79i, x35_80, x35_83, x35_84, x35_85, x35_88, x35_89, x35_90, x35_91, x35_94, x35_95, x35_96, x35_99, x35_100, x35_101, x35_104, x35_107, x35_108, x35_111, x35_112, x35_113, x35_114, x35_117, x35_118, x35_121, x35_124, x35_125, x35_126, x35_127, x35_130, x35_132, x35_133, x35_135, x35_136, x35_139, x35_142, x35_144, x35_146, x35_149, x35_150, x35_151, x35_152, x35_156, x35_157, x35_160, x35_162, x35_163, x35_166, x35_167, x35_169, x35_171, x35_172, x35_175, x35_176, x35_179, x35_180, x35_183, x35_184, x35_186, x35_188, x35_191, x35_193, x35_195, x35_196, x35_199, x35_201, x35_203, x35_204, x35_206, x35_208, x35_211, x35_213, x35_215, x35_216, x35_219, x35_221, x35_223, x35_224, x35_226, x35_227, x35_229, x35_232, x35_235, x35_236, x35_237, x35_238, x35_239, x35_241, x35_242, x35_244, x35_245, x35_248, x35_249, x35_249i, x35_250, x35_253, x35_254, x35_255, x35_258, x35_261, x35_264, x35_265, fcn_0_19, fcn_0_36, fcn_0_37, fcn_0_9, if_true, if_false, eq_self, Int.reduceEq, Int.reduceLT, Int.reduceLE, Int.reduceAdd, Int.reduceSub, Int.reduceMul, Int.reduceToNat, Nat.reduceAdd, Nat.reduceMul, Nat.reduceEqDiff, Int.toNat_natCast, wrap_id, y3, hl, zcI_r, zcV_r, e1, e2, hG, hH, hsk, if_pos (show (k : Int) < (tsz t : Nat) by omega)]
      · have hl1 : lfA true (lf t k 0) = 0 := by unfold lfA; rw [if_pos rfl, show (lf t k 0).2 % 2 = 0 by omega]; rfl
        rw [if_neg hb] at hG hH
        rw [hl1] at hl
        rw [x35_154]
        simp (disch := first | exact obC_0 | omega | (simp only [aN1_12, aN1_28, aN1_29, aN1_5]; omega) | (simp only [List.length_cons, List.length_nil]; omega)) only [en35, x35_0, x35_1, x35_4, x35_5, x35_6, x35_7, x35_8, x35_9, x35_12, x35_13, x35_14, x35_17, x35_18, x35_19, x35_22, x35_23, x35_24, x35_25, x35_28, x35_30, x35_31, x35_34, x35_36, x35_37, x35_40, x35_42, x35_44, x35_47, x35_48, x35_49, x35_52, x35_54, x35_56, x35_59, x35_60, x35_62, x35_65, x35_68, x35_69, x35_70, x35_71, x35_72, x35_74, x35_75, x35_78, x35_79, x35_79i, x35_80, x35_83, x35_84, x35_85, x35_88, x35_89, x35_90, x35_91, x35_94, x35_95, x35_96, x35_99, x35_100, x35_101, x35_104, x35_107, x35_108, x35_111, x35_112, x35_113, x35_114, x35_117, x35_118, x35_121, x35_124, x35_125, x35_126, x35_127, x35_130, x35_132, x35_133, x35_135, x35_136, x35_139, x35_142, x35_144, x35_146, x35_149, x35_150, x35_151, x35_152, x35_156, x35_157, x35_160, x35_162, x35_163, x35_166, x35_167, x35_169, x35_171, x35_172, x35_175, x35_176, x35_179, x35_180, x35_183, x35_184, x35_186, x35_188, x35_191, x35_193, x35_195, x35_196, x35_199, x35_201, x35_203, x35_204, x35_206, x35_208, x35_211, x35_213, x35_215, x35_216, x35_219, x35_221, x35_223, x35_224, x35_226, x35_227, x35_229, x35_232, x35_235, x35_236, x35_237, x35_238, x35_239, x35_241, x35_242, x35_244, x35_245, x35_248, x35_249, x35_249i, x35_250, x35_253, x35_254, x35_255, x35_258, x35_261, x35_264, x35_265, fcn_0_19, fcn_0_36, fcn_0_37, fcn_0_9, if_true, if_false, eq_self, Int.reduceEq, Int.reduceLT, Int.reduceLE, Int.reduceAdd, Int.reduceSub, Int.reduceMul, Int.reduceToNat, Nat.reduceAdd, Nat.reduceMul, Nat.reduceEqDiff, Int.toNat_natCast, wrap_id, y3, hl, zcI_r, zcV_r, e1, e2, hG, hH, hsk, if_pos (show (k : Int) < (tsz t : Nat) by omega)]
