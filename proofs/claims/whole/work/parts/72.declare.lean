/-- the loop of declare, at a declaration with a type: from its k-th signal on -/
theorem dc_loop {d M C b nm st so ty : Nat} {t : Jvm.Term} (hd : 1 ≤ d) (hM : M ≤ 200) (hC : C ≤ 100) (hz : b + tsz t ≤ 24) (hdp : dpt t ≤ 9) (hst : st < 120) : ∀ (m k : Nat) (s : Mem) (l5 : AV), k + m = tsz t → RT s 0 M 0 C true t ty → s 0 50 = b → s 28 st = so → s 25 st = 4 → s 30 st = ty →
    ∃ s', Ze d 31 135 [aR 0, aI st, aI nm, aI (tsz t : Nat), aI k, l5] [] s = rI 1 s' ∧ s' 0 50 = ((b + tsz t : Nat) : Int) ∧ (∀ i, k ≤ i → i < tsz t → s' 35 (b + i) = so ∧ s' 36 (b + i) = nm ∧ s' 37 (b + i) = (((lf t i 0).2 % 2 : Nat) : Int) ∧ s' 38 (b + i) = ((lf t i 0).1 : Nat) ∧ s' 39 (b + i) = -1) ∧ Fr (fun c j => (c = 0 ∧ j = 50) ∨ (35 ≤ c ∧ c ≤ 39 ∧ b + k ≤ j ∧ j < b + tsz t)) s s' := by
  intro m
  induction m with
  | zero =>
    intro k s l5 hk hT hb hl ho hs
    refine ⟨mu s 0 50 ((b : Int) + (tsz t : Nat)), ?_, by rw [mu_s]; rfl, fun i h1 h2 => by omega, (Fr.rf s).mu (Or.inl ⟨rfl, rfl⟩)⟩
    rw [x31_135]
    simp (disch := first | exact obC_0 | omega | (simp only [aN1_25, aN1_27, aN1_28, aN1_29, aN1_30, aN1_32, aN1_33, aN1_34, aN1_35, aN1_36, aN1_37, aN1_38, aN1_39, aN1_5]; omega) | (simp only [List.length_cons, List.length_nil]; omega)) only [en31, x31_0, x31_1, x31_4, x31_5, x31_6, x31_7, x31_8, x31_11, x31_12, x31_13, x31_14, x31_17, x31_18, x31_21, x31_22, x31_25, x31_26, x31_29, x31_30, x31_31, x31_32, x31_33, x31_34, x31_37, x31_38, x31_39, x31_42, x31_43, x31_46, x31_47, x31_48, x31_50, x31_53, x31_54, x31_55, x31_56, x31_59, x31_60, x31_61, x31_62, x31_65, x31_66, x31_67, x31_70, x31_71, x31_72, x31_75, x31_77, x31_79, x31_82, x31_83, x31_84, x31_85, x31_88, x31_89, x31_90, x31_93, x31_94, x31_95, x31_96, x31_97, x31_100, x31_101, x31_102, x31_105, x31_106, x31_107, x31_108, x31_111, x31_112, x31_115, x31_116, x31_119, x31_120, x31_121, x31_122, x31_123, x31_126, x31_127, x31_128, x31_131, x31_132, x31_133, x31_137, x31_138, x31_141, x31_142, x31_145, x31_147, x31_148, x31_150, x31_151, x31_154, x31_156, x31_157, x31_160, x31_161, x31_162, x31_163, x31_164, x31_167, x31_169, x31_170, x31_171, x31_172, x31_175, x31_177, x31_178, x31_181, x31_182, x31_183, x31_184, x31_187, x31_188, x31_191, x31_192, x31_193, x31_196, x31_197, x31_198, x31_200, x31_201, x31_204, x31_205, x31_206, x31_209, x31_211, x31_212, x31_215, x31_216, x31_217, x31_218, x31_221, x31_222, x31_225, x31_226, x31_227, x31_230, x31_231, x31_232, x31_234, x31_235, x31_238, x31_239, x31_240, x31_243, x31_245, x31_246, x31_249, x31_250, x31_251, x31_252, x31_255, x31_256, x31_259, x31_260, x31_261, x31_264, x31_265, x31_266, x31_269, x31_272, x31_273, x31_273i, x31_274, x31_277, x31_278, x31_279, x31_282, x31_283, fcn_0_33, fcn_0_35, fcn_0_36, fcn_0_37, fcn_0_38, fcn_0_41, fcn_0_42, fcn_0_43, fcn_0_44, fcn_0_45, fcn_0_46, fcn_0_47, fcn_0_48, fcn_0_9, if_true, if_false, eq_self, Int.reduceEq, Int.reduceLT, Int.reduceLE, Int.reduceAdd, Int.reduceSub, Int.reduceMul, Int.reduceToNat, Nat.reduceAdd, Nat.reduceMul, Nat.reduceEqDiff, Int.toNat_natCast, wrap_id, hb, if_neg (show ¬ (k : Int) < (tsz t : Nat) by omega)]
  | succ m ih =>
    intro k s l5 hk hT hb hl ho hs
    have hlt := t_leaf (d := d) hd hM hC (t := t) (k := k) (ty := ty)
    have e1 : ((b : Int) + k).toNat = b + k := by omega
    have e2 : (b : Int) + k = ((b + k : Nat) : Int) := rfl
    generalize hs1 : mu (mu s 35 (b + k) so) 36 (b + k) nm = s1
    have k1 : ∀ {c j : Nat}, c ≠ 35 → c ≠ 36 → s1 c j = s c j := fun h1 h2 => by rw [← hs1, mu_c h2, mu_c h1]
    have T1 : RT s1 0 M 0 C true t ty := RT_put (fun c j z => k1 (by omega) (by omega)) hT
    have l1 := hlt s1 true T1 (by omega) (by omega) hdp
    generalize hs2 : mu s1 37 (b + k) (lfA true (lf t k 0)) = s2
    have k2 : ∀ {c j : Nat}, c ≠ 37 → s2 c j = s1 c j := fun h1 => by rw [← hs2, mu_c h1]
    have T2 : RT s2 0 M 0 C true t ty := RT_put (fun c j z => k2 (by omega)) T1
    have l2 := hlt s2 false T2 (by omega) (by omega) hdp
    rw [if_pos rfl] at l1
    rw [if_neg (show ¬ false = true by decide)] at l2
    generalize hs3 : mu (mu s2 38 (b + k) (lfA false (lf t k 0))) 39 (b + k) (-1) = s3
    have k3 : ∀ {c j : Nat}, c ≠ 38 → c ≠ 39 → s3 c j = s2 c j := fun h1 h2 => by rw [← hs3, mu_c h2, mu_c h1]
    have F3 : Fr (fun c j => 35 ≤ c ∧ c ≤ 39 ∧ j = b + k) s s3 := by
      rw [← hs3, ← hs2, ← hs1]
      exact (((((Fr.rf s).mu ⟨by decide, by decide, rfl⟩).mu ⟨by decide, by decide, rfl⟩).mu ⟨by decide, by decide, rfl⟩).mu ⟨by decide, by decide, rfl⟩).mu ⟨by decide, by decide, rfl⟩
    have op1 : s1 25 st = 4 := by rw [k1 (by decide) (by decide), ho]
    have st1 : s1 30 st = ty := by rw [k1 (by decide) (by decide), hs]
    have op2 : s2 25 st = 4 := by rw [k2 (by decide), op1]
    have st2 : s2 30 st = ty := by rw [k2 (by decide), st1]
    have lz : ∀ tn, 0 ≤ lfA tn (lf t k 0) := fun tn => by unfold lfA; split <;> omega
    have hz1 : Ze d 31 135 [aR 0, aI st, aI nm, aI (tsz t : Nat), aI k, l5] [] s = Ze d 31 135 [aR 0, aI st, aI nm, aI (tsz t : Nat), aI ((k + 1 : Nat) : Int), aI ((b + k : Nat) : Int)] [] s3 := by
      rw [show ((k + 1 : Nat) : Int) = (k : Int) + 1 by omega]
      rw [x31_135]
      simp (disch := first | exact obC_0 | omega | (simp only [aN1_25, aN1_27, aN1_28, aN1_29, aN1_30, aN1_32, aN1_33, aN1_34, aN1_35, aN1_36, aN1_37, aN1_38, aN1_39, aN1_5]; omega) | (simp only [List.length_cons, List.length_nil]; omega)) only [en31, x31_0, x31_1, x31_4, x31_5, x31_6, x31_7, x31_8, x31_11, x31_12, x31_13, x31_14, x31_17, x31_18, x31_21, x31_22, x31_25, x31_26, x31_29, x31_30, x31_31, x31_32, x31_33, x31_34, x31_37, x31_38, x31_39, x31_42, x31_43, x31_46, x31_47, x31_48, x31_50, x31_53, x31_54, x31_55, x31_56, x31_59, x31_60, x31_61, x31_62, x31_65, x31_66, x31_67, x31_70, x31_71, x31_72, x31_75, x31_77, x31_79, x31_82, x31_83, x31_84, x31_85, x31_88, x31_89, x31_90, x31_93, x31_94, x31_95, x31_96, x31_97, x31_100, x31_101, x31_102, x31_105, x31_106, x31_107, x31_108, x31_111, x31_112, x31_115, x31_116, x31_119, x31_120, x31_121, x31_122, x31_123, x31_126, x31_127, x31_128, x31_131, x31_132, x31_133, x31_137, x31_138, x31_141, x31_142, x31_145, x31_147, x31_148, x31_150, x31_151, x31_154, x31_156, x31_157, x31_160, x31_161, x31_162, x31_163, x31_164, x31_167, x31_169, x31_170, x31_171, x31_172, x31_175, x31_177, x31_178, x31_181, x31_182, x31_183, x31_184, x31_187, x31_188, x31_191, x31_192, x31_193, x31_196, x31_197, x31_198, x31_200, x31_201, x31_204, x31_205, x31_206, x31_209, x31_211, x31_212, x31_215, x31_216, x31_217, x31_218, x31_221, x31_222, x31_225, x31_226, x31_227, x31_230, x31_231, x31_232, x31_234, x31_235, x31_238, x31_239, x31_240, x31_243, x31_245, x31_246, x31_249, x31_250, x31_251, x31_252, x31_255, x31_256, x31_259, x31_260, x31_261, x31_264, x31_265, x31_266, x31_269, x31_272, x31_273, x31_273i, x31_274, x31_277, x31_278, x31_279, x31_282, x31_283, fcn_0_33, fcn_0_35, fcn_0_36, fcn_0_37, fcn_0_38, fcn_0_41, fcn_0_42, fcn_0_43, fcn_0_44, fcn_0_45, fcn_0_46, fcn_0_47, fcn_0_48, fcn_0_9, if_true, if_false, eq_self, Int.reduceEq, Int.reduceLT, Int.reduceLE, Int.reduceAdd, Int.reduceSub, Int.reduceMul, Int.reduceToNat, Nat.reduceAdd, Nat.reduceMul, Nat.reduceEqDiff, Int.toNat_natCast, wrap_id, hb, e1, e2, hl, ho, hs, mu_c, hs1, op1, st1, l1, l2, zcI_r, hs2, op2, st2, hs3, if_pos (show (k : Int) < (tsz t : Nat) by omega)]
    obtain ⟨s', p1, p2, p3, p4⟩ := ih (k + 1) s3 (aI ((b + k : Nat) : Int)) (by omega) (RT_put (fun c j z => k3 (by omega) (by omega)) T2) (by rw [F3 _ _ (by omega), hb]) (by rw [F3 _ _ (by omega), hl]) (by rw [F3 _ _ (by omega), ho]) (by rw [F3 _ _ (by omega), hs])
    refine ⟨s', hz1.trans p1, p2, fun i h1 h2 => ?_, (F3.mono (fun c j z => Or.inr ⟨z.1, z.2.1, by omega, by omega⟩)).tr (p4.mono (fun c j z => z.imp id (fun z => ⟨z.1, z.2.1, by omega, z.2.2.2⟩)))⟩
    by_cases hik : i = k
    · subst hik
      have o : ∀ c, c ≠ 0 → s' c (b + i) = s3 c (b + i) := fun c hc => p4 _ _ (by omega)
      refine ⟨?_, ?_, ?_, ?_, ?_⟩
      · rw [o _ (by decide), k3 (by decide) (by decide), k2 (by decide), ← hs1, mu_c (by decide), mu_s]
      · rw [o _ (by decide), k3 (by decide) (by decide), k2 (by decide), ← hs1, mu_s]
      · rw [o _ (by decide), k3 (by decide) (by decide), ← hs2, mu_s]; rfl
      · rw [o _ (by decide), ← hs3, mu_c (by decide), mu_s]; rfl
      · rw [o _ (by decide), ← hs3, mu_s]
    · exact p3 i (by omega) h2
/-- the state between two steps of the check -/
def CK (s : Mem) (N M C : Nat) (env : EnvT) (sg : List Sg) (lo : List Lo) : Prop :=
  EN s M C env ∧ eOK env sg.length ∧ s 0 50 = sg.length ∧ sg.length ≤ 24 ∧ SGs s N sg ∧ s 0 57 = lo.length ∧ LOs s N lo
theorem eOK_up {env : EnvT} {L L' nm b : Nat} {t : Jvm.Term} (h : eOK env L) (hL : L ≤ L') (hb : b + tsz t ≤ L') (hd : dpt t ≤ 9) (h1 : 1 ≤ tsz t) : eOK (eUp env nm (t, b)) L' := by
  intro d t' b' he
  unfold eUp at he
  split at he
  · cases he
    exact ⟨hb, hd, h1⟩
  · obtain ⟨g1, g2, g3⟩ := h _ _ _ he
    exact ⟨by omega, g2, g3⟩
def E1 (s : Mem) (M C : Nat) (x : Option (Jvm.Term × Nat)) (d : Nat) : Prop := match x with
  | none => s 32 d = -1
  | some (t, b) => 0 ≤ s 32 d ∧ s 34 d = b ∧ TY s M C t (s 33 d) ∧ b + tsz t ≤ 24
theorem E1_put {s s' : Mem} {M C d : Nat} {x : Option (Jvm.Term × Nat)} (g : ∀ k j, 2 ≤ k ∧ k ≤ 9 → s' k j = s k j) (h1 : s' 32 d = s 32 d) (h2 : s' 34 d = s 34 d) (h3 : s' 33 d = s 33 d) (h : E1 s M C x d) : E1 s' M C x d := by
  cases x with
  | none => exact h1.trans h
  | some tb =>
    obtain ⟨t, b⟩ := tb
    obtain ⟨z1, z2, z3, z4⟩ := h
    exact ⟨by rw [h1]; exact z1, h2.trans z2, by rw [h3]; exact TY_put g z3, z4⟩
theorem EN_up {s : Mem} {M C nm b : Nat} {env : EnvT} {t : Jvm.Term} (h : ∀ d, d < 26 → d ≠ nm → E1 s M C (env d) d) (h1 : 0 ≤ s 32 nm) (h2 : s 34 nm = b) (h3 : TY s M C t (s 33 nm)) (h4 : b + tsz t ≤ 24) : EN s M C (eUp env nm (t, b)) := by
  intro d hd
  unfold eUp
  by_cases hdn : d = nm
  · subst hdn
    rw [if_pos rfl]
    exact ⟨h1, h2, h3, h4⟩
  · rw [if_neg hdn]
    exact h d hd hdn
theorem sgOf_len {k nm : Nat} {t : Jvm.Term} : (sgOf k nm t).length = tsz t := by unfold sgOf; rw [List.length_map, List.length_range]
theorem sgOf_get {k nm : Nat} {t : Jvm.Term} {i : Nat} {x : Sg} (h : (sgOf k nm t)[i]? = some x) : i < tsz t ∧ x = (k, nm, (lf t i 0).2 % 2, (lf t i 0).1, .null) := by
  unfold sgOf at h
  have hi : i < tsz t := by
    have := (List.getElem?_eq_some_iff.mp h).1
    rwa [List.length_map, List.length_range] at this
  rw [List.getElem?_map, List.getElem?_range hi] at h
  cases h
  exact ⟨hi, rfl⟩
/-- what a step of the check comes to -/
def CS (n n' M C : Nat) (cv : List (Option Jvm.Term)) (sg : List Sg) (lo : List Lo) (s : Mem) (Z : Option Res) (x : Option (EnvT × List Sg × List Lo)) : Prop :=
  match x with
  | some (env', sg', lo') => ∃ s', Z = rI 1 s' ∧ CK s' n' M C env' sg' (lo ++ lo') ∧ s' 0 58 = s 0 58 + ((lo'.filter (fun x => x.1 == 0)).length : Nat) ∧ CVs s' n cv n' ∧ Fr (CF n n') s s'
  | none => ∃ s', Z = rI 0 s' ∧ Fr (CF n n') s s'
theorem t_declare4 {d k n n' M C : Nat} {i : It} {env : EnvT} {sg : List Sg} {lo : List Lo} {s : Mem} (hd : 2 ≤ d) (hM : M ≤ 200) (hC : C ≤ 100) (hk : k < 120) (hnz : n' = n + nsz i) (hI : RI s k n n' M C i) (h4 : i.1 = 4) (hdp : dpt i.2.2.2.2.2 ≤ 9) (hCK : CK s n M C env sg lo) :
    CS n n' M C (cv1 env i) sg lo s (Zc d 31 [aR 0, aI k] s) (ck1 env sg i) := by
  obtain ⟨d, rfl⟩ : ∃ e, d = e + 1 := ⟨d - 1, by omega⟩
  have hn : n ≤ n' := by omega
  obtain ⟨hEN, hOK, hsg, hsg24, hSG, hlo, hLO⟩ := hCK
  obtain ⟨r1, r2, r3⟩ := hI
  obtain ⟨nm, hnm⟩ : ∃ nm, i.2.2.1 = nm := ⟨_, rfl⟩
  obtain ⟨so, hso⟩ : ∃ so, i.2.2.2.1 = so := ⟨_, rfl⟩
  obtain ⟨t, ht⟩ : ∃ t, i.2.2.2.2.2 = t := ⟨_, rfl⟩
  have r3 : s 27 k = nm ∧ nm < 26 ∧ s 28 k = so ∧ so < 4 ∧ ∃ ty : Nat, s 30 k = ty ∧ RT s 0 M 0 C true t ty := by
    rw [← hnm, ← hso, ← ht]
    rcases r3 with ⟨q, -⟩ | ⟨q, -⟩ | q | q | ⟨q, h⟩ | ⟨q, -⟩
    · omega
    · omega
    · omega
    · omega
    · exact h
    · omega
  obtain ⟨g1, g2, g3, g4, ty, g5, g6⟩ := r3
  obtain ⟨y1, y2, y3, y4⟩ := RT_size g6
  rw [Int.toNat_natCast] at y3
  rw [h4] at r1
  have r1 : s 25 k = 4 := r1
  unfold ck1
  rw [if_pos h4, hnm, hso, ht]
  rw [ht] at hdp
  have hD := hEN nm g2
  by_cases hok : env nm = none ∧ sg.length + tsz t ≤ 24
  · rw [if_pos hok]
    obtain ⟨he, hz⟩ := hok
    rw [he] at hD
    have hD : s 32 nm = -1 := hD
    rw [show min 25 (tsz t) = tsz t by omega] at y3
    generalize hs1 : mu (mu (mu s 32 nm so) 33 nm ty) 34 nm sg.length = s1
    have k1 : ∀ {c j : Nat}, c ≠ 32 → c ≠ 33 → c ≠ 34 → s1 c j = s c j := fun h1 h2 h3 => by rw [← hs1, mu_c h3, mu_c h2, mu_c h1]
    have F1 : Fr (fun c j => 32 ≤ c ∧ c ≤ 34 ∧ j = nm) s s1 := by rw [← hs1]; exact (((Fr.rf s).mu ⟨by decide, by decide, rfl⟩).mu ⟨by decide, by decide, rfl⟩).mu ⟨by decide, by decide, rfl⟩
    have hz1 : Zc (d + 1) 31 [aR 0, aI k] s = Ze d 31 135 [aR 0, aI k, aI nm, aI (tsz t : Nat), aI ((0 : Nat) : Int), aU] [] s1 := by
      have z0 : ((0 : Nat) : Int) = 0 := rfl
      simp (disch := first | exact obC_0 | omega | (simp only [aN1_25, aN1_27, aN1_28, aN1_29, aN1_30, aN1_32, aN1_33, aN1_34, aN1_35, aN1_36, aN1_37, aN1_38, aN1_39, aN1_5]; omega) | (simp only [List.length_cons, List.length_nil]; omega)) only [en31, x31_0, x31_1, x31_4, x31_5, x31_6, x31_7, x31_8, x31_11, x31_12, x31_13, x31_14, x31_17, x31_18, x31_21, x31_22, x31_25, x31_26, x31_29, x31_30, x31_31, x31_32, x31_33, x31_34, x31_37, x31_38, x31_39, x31_42, x31_43, x31_46, x31_47, x31_48, x31_50, x31_53, x31_54, x31_55, x31_56, x31_59, x31_60, x31_61, x31_62, x31_65, x31_66, x31_67, x31_70, x31_71, x31_72, x31_75, x31_77, x31_79, x31_82, x31_83, x31_84, x31_85, x31_88, x31_89, x31_90, x31_93, x31_94, x31_95, x31_96, x31_97, x31_100, x31_101, x31_102, x31_105, x31_106, x31_107, x31_108, x31_111, x31_112, x31_115, x31_116, x31_119, x31_120, x31_121, x31_122, x31_123, x31_126, x31_127, x31_128, x31_131, x31_132, x31_133, x31_137, x31_138, x31_141, x31_142, x31_145, x31_147, x31_148, x31_150, x31_151, x31_154, x31_156, x31_157, x31_160, x31_161, x31_162, x31_163, x31_164, x31_167, x31_169, x31_170, x31_171, x31_172, x31_175, x31_177, x31_178, x31_181, x31_182, x31_183, x31_184, x31_187, x31_188, x31_191, x31_192, x31_193, x31_196, x31_197, x31_198, x31_200, x31_201, x31_204, x31_205, x31_206, x31_209, x31_211, x31_212, x31_215, x31_216, x31_217, x31_218, x31_221, x31_222, x31_225, x31_226, x31_227, x31_230, x31_231, x31_232, x31_234, x31_235, x31_238, x31_239, x31_240, x31_243, x31_245, x31_246, x31_249, x31_250, x31_251, x31_252, x31_255, x31_256, x31_259, x31_260, x31_261, x31_264, x31_265, x31_266, x31_269, x31_272, x31_273, x31_273i, x31_274, x31_277, x31_278, x31_279, x31_282, x31_283, fcn_0_33, fcn_0_35, fcn_0_36, fcn_0_37, fcn_0_38, fcn_0_41, fcn_0_42, fcn_0_43, fcn_0_44, fcn_0_45, fcn_0_46, fcn_0_47, fcn_0_48, fcn_0_9, if_true, if_false, eq_self, Int.reduceEq, Int.reduceLT, Int.reduceLE, Int.reduceAdd, Int.reduceSub, Int.reduceMul, Int.reduceToNat, Nat.reduceAdd, Nat.reduceMul, Nat.reduceEqDiff, Int.toNat_natCast, wrap_id, g1, r1, g5, y3, hD, hsg, g3, mu_c, hs1, z0, if_neg (show ¬ 24 < (sg.length : Int) + (tsz t : Nat) by omega)]
    obtain ⟨s2, p1, p2, p3, p4⟩ := dc_loop (d := d) (b := sg.length) (nm := nm) (st := k) (so := so) (ty := ty) (by omega) hM hC hz hdp hk (tsz t) 0 s1 aU (Nat.zero_add _) (RT_put (fun c j z => F1 _ _ (by omega)) g6) (by rw [F1 _ _ (by omega), hsg]) (by rw [F1 _ _ (by omega), g3]) (by rw [F1 _ _ (by omega), r1]) (by rw [F1 _ _ (by omega), g5])
    have F2 : Fr (fun c j => (32 ≤ c ∧ c ≤ 34 ∧ j = nm) ∨ (c = 0 ∧ j = 50) ∨ (35 ≤ c ∧ c ≤ 39 ∧ sg.length ≤ j ∧ j < sg.length + tsz t)) s s2 := (F1.mono (fun c j z => Or.inl z)).tr (p4.mono (fun c j z => Or.inr (z.imp id (fun z => ⟨z.1, z.2.1, by omega, z.2.2.2⟩))))
    have A : ∀ N, AR s s2 0 N := fun N c j hc _ _ => F2 _ _ (by omega)
    have s21 : ∀ c, 32 ≤ c ∧ c ≤ 34 → s2 c nm = s1 c nm := fun c hc => p4 _ _ (by omega)
    refine ⟨s2, hz1.trans p1, ⟨?_, ?_, ?_, ?_, ?_, ?_, ?_⟩, ?_, ?_, F2.mono (fun c j z => ?_)⟩
    · refine EN_up (fun d hd hdn => ?_) ?_ ?_ ?_ hz
      · exact E1_put (fun k j h => F2 _ _ (by omega)) (F2 _ _ (by omega)) (F2 _ _ (by omega)) (F2 _ _ (by omega)) (hEN d hd)
      · rw [s21 _ (by decide), ← hs1, mu_c (by decide), mu_c (by decide), mu_s]; omega
      · rw [s21 _ (by decide), ← hs1, mu_s]
      · rw [s21 _ (by decide), ← hs1, mu_c (by decide), mu_s]
        exact Or.inr (RT_put (fun c j z => F2 _ _ (by omega)) g6)
    · refine eOK_up hOK ?_ ?_ hdp y4
      · rw [List.length_append]; omega
      · rw [List.length_append, sgOf_len]; omega
    · rw [p2, List.length_append, sgOf_len]
    · rw [List.length_append, sgOf_len]; exact hz
    · refine SGs_app (SGs_put hn (A n) (fun c j hc hj => F2 _ _ (by omega)) hSG) (fun j x hx => ?_)
      obtain ⟨hj, rfl⟩ := sgOf_get hx
      obtain ⟨q1, q2, q3, q4, q5⟩ := p3 j (Nat.zero_le _) hj
      exact ⟨q1, q2, q3, q4, Or.inl ⟨rfl, q5⟩⟩
    · rw [F2 _ _ (by omega), hlo, List.append_nil]
    · rw [List.append_nil]
      exact LOs_put hn (A n) (fun c j hc hj => F2 _ _ (by omega)) hLO
    · rw [F2 _ _ (by omega)]
      simp
    · unfold cv1
      rw [if_neg (by omega), if_neg (by omega)]
      unfold nsz at hnz
      rw [if_neg (by omega), if_neg (by omega)] at hnz
      exact hnz.symm
    · rcases z with z | z | z
      · exact Or.inr (Or.inl ⟨z.1, z.2.1⟩)
      · exact Or.inl ⟨z.1, Or.inl z.2⟩
      · exact Or.inr (Or.inr (Or.inl ⟨z.1, z.2.1, by omega⟩))
  · rw [if_neg hok]
    refine ⟨s, ?_, Fr.rf s⟩
    cases he : env nm with
    | none =>
      have hz : ¬ sg.length + tsz t ≤ 24 := fun z => hok ⟨he, z⟩
      rw [he] at hD
      have hD : s 32 nm = -1 := hD
      simp (disch := first | exact obC_0 | omega | (simp only [aN1_25, aN1_27, aN1_28, aN1_29, aN1_30, aN1_32, aN1_33, aN1_34, aN1_35, aN1_36, aN1_37, aN1_38, aN1_39, aN1_5]; omega) | (simp only [List.length_cons, List.length_nil]; omega)) only [en31, x31_0, x31_1, x31_4, x31_5, x31_6, x31_7, x31_8, x31_11, x31_12, x31_13, x31_14, x31_17, x31_18, x31_21, x31_22, x31_25, x31_26, x31_29, x31_30, x31_31, x31_32, x31_33, x31_34, x31_37, x31_38, x31_39, x31_42, x31_43, x31_46, x31_47, x31_48, x31_50, x31_53, x31_54, x31_55, x31_56, x31_59, x31_60, x31_61, x31_62, x31_65, x31_66, x31_67, x31_70, x31_71, x31_72, x31_75, x31_77, x31_79, x31_82, x31_83, x31_84, x31_85, x31_88, x31_89, x31_90, x31_93, x31_94, x31_95, x31_96, x31_97, x31_100, x31_101, x31_102, x31_105, x31_106, x31_107, x31_108, x31_111, x31_112, x31_115, x31_116, x31_119, x31_120, x31_121, x31_122, x31_123, x31_126, x31_127, x31_128, x31_131, x31_132, x31_133, x31_137, x31_138, x31_141, x31_142, x31_145, x31_147, x31_148, x31_150, x31_151, x31_154, x31_156, x31_157, x31_160, x31_161, x31_162, x31_163, x31_164, x31_167, x31_169, x31_170, x31_171, x31_172, x31_175, x31_177, x31_178, x31_181, x31_182, x31_183, x31_184, x31_187, x31_188, x31_191, x31_192, x31_193, x31_196, x31_197, x31_198, x31_200, x31_201, x31_204, x31_205, x31_206, x31_209, x31_211, x31_212, x31_215, x31_216, x31_217, x31_218, x31_221, x31_222, x31_225, x31_226, x31_227, x31_230, x31_231, x31_232, x31_234, x31_235, x31_238, x31_239, x31_240, x31_243, x31_245, x31_246, x31_249, x31_250, x31_251, x31_252, x31_255, x31_256, x31_259, x31_260, x31_261, x31_264, x31_265, x31_266, x31_269, x31_272, x31_273, x31_273i, x31_274, x31_277, x31_278, x31_279, x31_282, x31_283, fcn_0_33, fcn_0_35, fcn_0_36, fcn_0_37, fcn_0_38, fcn_0_41, fcn_0_42, fcn_0_43, fcn_0_44, fcn_0_45, fcn_0_46, fcn_0_47, fcn_0_48, fcn_0_9, if_true, if_false, eq_self, Int.reduceEq, Int.reduceLT, Int.reduceLE, Int.reduceAdd, Int.reduceSub, Int.reduceMul, Int.reduceToNat, Nat.reduceAdd, Nat.reduceMul, Nat.reduceEqDiff, Int.toNat_natCast, wrap_id, g1, r1, g5, y3, hD, hsg, if_pos (show 24 < (sg.length : Int) + ((min 25 (tsz t) : Nat) : Int) by omega)]
    | some tb =>
      obtain ⟨t', b⟩ := tb
      rw [he] at hD
      obtain ⟨d1, -⟩ := hD
      simp (disch := first | exact obC_0 | omega | (simp only [aN1_25, aN1_27, aN1_28, aN1_29, aN1_30, aN1_32, aN1_33, aN1_34, aN1_35, aN1_36, aN1_37, aN1_38, aN1_39, aN1_5]; omega) | (simp only [List.length_cons, List.length_nil]; omega)) only [en31, x31_0, x31_1, x31_4, x31_5, x31_6, x31_7, x31_8, x31_11, x31_12, x31_13, x31_14, x31_17, x31_18, x31_21, x31_22, x31_25, x31_26, x31_29, x31_30, x31_31, x31_32, x31_33, x31_34, x31_37, x31_38, x31_39, x31_42, x31_43, x31_46, x31_47, x31_48, x31_50, x31_53, x31_54, x31_55, x31_56, x31_59, x31_60, x31_61, x31_62, x31_65, x31_66, x31_67, x31_70, x31_71, x31_72, x31_75, x31_77, x31_79, x31_82, x31_83, x31_84, x31_85, x31_88, x31_89, x31_90, x31_93, x31_94, x31_95, x31_96, x31_97, x31_100, x31_101, x31_102, x31_105, x31_106, x31_107, x31_108, x31_111, x31_112, x31_115, x31_116, x31_119, x31_120, x31_121, x31_122, x31_123, x31_126, x31_127, x31_128, x31_131, x31_132, x31_133, x31_137, x31_138, x31_141, x31_142, x31_145, x31_147, x31_148, x31_150, x31_151, x31_154, x31_156, x31_157, x31_160, x31_161, x31_162, x31_163, x31_164, x31_167, x31_169, x31_170, x31_171, x31_172, x31_175, x31_177, x31_178, x31_181, x31_182, x31_183, x31_184, x31_187, x31_188, x31_191, x31_192, x31_193, x31_196, x31_197, x31_198, x31_200, x31_201, x31_204, x31_205, x31_206, x31_209, x31_211, x31_212, x31_215, x31_216, x31_217, x31_218, x31_221, x31_222, x31_225, x31_226, x31_227, x31_230, x31_231, x31_232, x31_234, x31_235, x31_238, x31_239, x31_240, x31_243, x31_245, x31_246, x31_249, x31_250, x31_251, x31_252, x31_255, x31_256, x31_259, x31_260, x31_261, x31_264, x31_265, x31_266, x31_269, x31_272, x31_273, x31_273i, x31_274, x31_277, x31_278, x31_279, x31_282, x31_283, fcn_0_33, fcn_0_35, fcn_0_36, fcn_0_37, fcn_0_38, fcn_0_41, fcn_0_42, fcn_0_43, fcn_0_44, fcn_0_45, fcn_0_46, fcn_0_47, fcn_0_48, fcn_0_9, if_true, if_false, eq_self, Int.reduceEq, Int.reduceLT, Int.reduceLE, Int.reduceAdd, Int.reduceSub, Int.reduceMul, Int.reduceToNat, Nat.reduceAdd, Nat.reduceMul, Nat.reduceEqDiff, Int.toNat_natCast, wrap_id, g1, r1, g5, y3, hsg, if_neg (show ¬ s 32 nm < 0 by omega)]
theorem t_declare5 {d k n n' M C : Nat} {i : It} {env : EnvT} {sg : List Sg} {lo : List Lo} {s : Mem} (hd : 3 ≤ d) (hM : M ≤ 200) (hC : C ≤ 100) (hk : k < 120) (hnz : n' = n + nsz i) (hn2 : n' ≤ 200) (hI : RI s k n n' M C i) (h5 : i.1 = 5) (hbd : ebd i.2.2.2.2.2) (hCK : CK s n M C env sg lo) :
    CS n n' M C (cv1 env i) sg lo s (Zc d 31 [aR 0, aI k] s) (ck1 env sg i) := by
  obtain ⟨d, rfl⟩ : ∃ e, d = e + 1 := ⟨d - 1, by omega⟩
  have hn : n ≤ n' := by omega
  obtain ⟨hEN, hOK, hsg, hsg24, hSG, hlo, hLO⟩ := hCK
  obtain ⟨r1, r2, r3⟩ := hI
  obtain ⟨nm, hnm⟩ : ∃ nm, i.2.2.1 = nm := ⟨_, rfl⟩
  obtain ⟨e, he⟩ : ∃ e, i.2.2.2.2.2 = e := ⟨_, rfl⟩
  have r3 : s 27 k = nm ∧ nm < 26 ∧ s 28 k = 4 ∧ ∃ b : Nat, s 29 k = b ∧ n ≤ b ∧ RE s e b ∧ b + esz e ≤ n' := by
    rw [← hnm, ← he]
    rcases r3 with ⟨q, -⟩ | ⟨q, -⟩ | q | q | ⟨q, -⟩ | ⟨q, h1, h2, h3, h4, h⟩
    · omega
    · omega
    · omega
    · omega
    · omega
    · exact ⟨h1, h2, h3, h⟩
  obtain ⟨g1, g2, g3, b, g4, g5, g6, g7⟩ := r3
  rw [h5] at r1
  have r1 : s 25 k = 5 := r1
  unfold ck1
  rw [if_neg (show ¬ i.1 = 4 by omega), if_pos h5, hnm, he]
  rw [he] at hbd
  have hD := hEN nm g2
  have hpos := esz_pos e
  by_cases hok : env nm = none ∧ sg.length + 1 ≤ 24
  · rw [if_pos hok]
    obtain ⟨hen, hz⟩ := hok
    rw [hen] at hD
    have hD : s 32 nm = -1 := hD
    have hS := t_settles (d := d) (root := b) (by omega) s hM hC (by omega) g6 hEN hbd
    cases hq : rE env e with
    | none =>
      rw [hq] at hS
      obtain ⟨s1, q1, q2⟩ := hS
      refine ⟨s1, ?_, q2.mono (fun c j z => FST_CF (FST_sub g5 g7 z))⟩
      simp (disch := first | exact obC_0 | omega | (simp only [aN1_25, aN1_27, aN1_28, aN1_29, aN1_30, aN1_32, aN1_33, aN1_34, aN1_35, aN1_36, aN1_37, aN1_38, aN1_39, aN1_5]; omega) | (simp only [List.length_cons, List.length_nil]; omega)) only [en31, x31_0, x31_1, x31_4, x31_5, x31_6, x31_7, x31_8, x31_11, x31_12, x31_13, x31_14, x31_17, x31_18, x31_21, x31_22, x31_25, x31_26, x31_29, x31_30, x31_31, x31_32, x31_33, x31_34, x31_37, x31_38, x31_39, x31_42, x31_43, x31_46, x31_47, x31_48, x31_50, x31_53, x31_54, x31_55, x31_56, x31_59, x31_60, x31_61, x31_62, x31_65, x31_66, x31_67, x31_70, x31_71, x31_72, x31_75, x31_77, x31_79, x31_82, x31_83, x31_84, x31_85, x31_88, x31_89, x31_90, x31_93, x31_94, x31_95, x31_96, x31_97, x31_100, x31_101, x31_102, x31_105, x31_106, x31_107, x31_108, x31_111, x31_112, x31_115, x31_116, x31_119, x31_120, x31_121, x31_122, x31_123, x31_126, x31_127, x31_128, x31_131, x31_132, x31_133, x31_137, x31_138, x31_141, x31_142, x31_145, x31_147, x31_148, x31_150, x31_151, x31_154, x31_156, x31_157, x31_160, x31_161, x31_162, x31_163, x31_164, x31_167, x31_169, x31_170, x31_171, x31_172, x31_175, x31_177, x31_178, x31_181, x31_182, x31_183, x31_184, x31_187, x31_188, x31_191, x31_192, x31_193, x31_196, x31_197, x31_198, x31_200, x31_201, x31_204, x31_205, x31_206, x31_209, x31_211, x31_212, x31_215, x31_216, x31_217, x31_218, x31_221, x31_222, x31_225, x31_226, x31_227, x31_230, x31_231, x31_232, x31_234, x31_235, x31_238, x31_239, x31_240, x31_243, x31_245, x31_246, x31_249, x31_250, x31_251, x31_252, x31_255, x31_256, x31_259, x31_260, x31_261, x31_264, x31_265, x31_266, x31_269, x31_272, x31_273, x31_273i, x31_274, x31_277, x31_278, x31_279, x31_282, x31_283, fcn_0_33, fcn_0_35, fcn_0_36, fcn_0_37, fcn_0_38, fcn_0_41, fcn_0_42, fcn_0_43, fcn_0_44, fcn_0_45, fcn_0_46, fcn_0_47, fcn_0_48, fcn_0_9, if_true, if_false, eq_self, Int.reduceEq, Int.reduceLT, Int.reduceLE, Int.reduceAdd, Int.reduceSub, Int.reduceMul, Int.reduceToNat, Nat.reduceAdd, Nat.reduceMul, Nat.reduceEqDiff, Int.toNat_natCast, wrap_id, g1, r1, g4, hD, hsg, q1, zcI_r, if_neg (show ¬ 24 < (sg.length : Int) + 1 by omega)]
    | some e' =>
      rw [hq] at hS
      obtain ⟨s1, q1, q2, q3⟩ := hS
      have hze := rE_esz hq
      have k1 : ∀ {c j : Nat}, c ≠ 0 → c ≠ 15 → s1 c j = s c j := fun h1 h2 => q3 _ _ (FST_k ⟨h1, h2⟩)
      have sg1 : s1 0 50 = sg.length := by rw [q3 _ _ (by unfold FST FND; omega), hsg]
      generalize hs2 : mu (mu (mu s1 32 nm 4) 33 nm (-1)) 34 nm sg.length = s2
      have k2 : ∀ {c j : Nat}, c ≠ 32 → c ≠ 33 → c ≠ 34 → s2 c j = s1 c j := fun h1 h2 h3 => by rw [← hs2, mu_c h3, mu_c h2, mu_c h1]
      have F2 : Fr (fun c j => 32 ≤ c ∧ c ≤ 34 ∧ j = nm) s1 s2 := by rw [← hs2]; exact (((Fr.rf s1).mu ⟨by decide, by decide, rfl⟩).mu ⟨by decide, by decide, rfl⟩).mu ⟨by decide, by decide, rfl⟩
      have own1 : s1 27 k = nm := by rw [k1 (by decide) (by decide), g1]
      have op1 : s1 25 k = 5 := by rw [k1 (by decide) (by decide), r1]
      have le1 : s1 28 k = 4 := by rw [k1 (by decide) (by decide), g3]
      have op2 : s2 25 k = 5 := by rw [k2 (by decide) (by decide) (by decide), op1]
      have le2 : s2 28 k = 4 := by rw [k2 (by decide) (by decide) (by decide), le1]
      have ri2 : s2 29 k = b := by rw [k2 (by decide) (by decide) (by decide), k1 (by decide) (by decide), g4]
      have sg2 : s2 0 50 = sg.length := by rw [k2 (by decide) (by decide) (by decide), sg1]
      have hz1 : Zc (d + 1) 31 [aR 0, aI k] s = Ze d 31 135 [aR 0, aI k, aI nm, aI 1, aI 0, aU] [] s2 := by
        simp (disch := first | exact obC_0 | omega | (simp only [aN1_25, aN1_27, aN1_28, aN1_29, aN1_30, aN1_32, aN1_33, aN1_34, aN1_35, aN1_36, aN1_37, aN1_38, aN1_39, aN1_5]; omega) | (simp only [List.length_cons, List.length_nil]; omega)) only [en31, x31_0, x31_1, x31_4, x31_5, x31_6, x31_7, x31_8, x31_11, x31_12, x31_13, x31_14, x31_17, x31_18, x31_21, x31_22, x31_25, x31_26, x31_29, x31_30, x31_31, x31_32, x31_33, x31_34, x31_37, x31_38, x31_39, x31_42, x31_43, x31_46, x31_47, x31_48, x31_50, x31_53, x31_54, x31_55, x31_56, x31_59, x31_60, x31_61, x31_62, x31_65, x31_66, x31_67, x31_70, x31_71, x31_72, x31_75, x31_77, x31_79, x31_82, x31_83, x31_84, x31_85, x31_88, x31_89, x31_90, x31_93, x31_94, x31_95, x31_96, x31_97, x31_100, x31_101, x31_102, x31_105, x31_106, x31_107, x31_108, x31_111, x31_112, x31_115, x31_116, x31_119, x31_120, x31_121, x31_122, x31_123, x31_126, x31_127, x31_128, x31_131, x31_132, x31_133, x31_137, x31_138, x31_141, x31_142, x31_145, x31_147, x31_148, x31_150, x31_151, x31_154, x31_156, x31_157, x31_160, x31_161, x31_162, x31_163, x31_164, x31_167, x31_169, x31_170, x31_171, x31_172, x31_175, x31_177, x31_178, x31_181, x31_182, x31_183, x31_184, x31_187, x31_188, x31_191, x31_192, x31_193, x31_196, x31_197, x31_198, x31_200, x31_201, x31_204, x31_205, x31_206, x31_209, x31_211, x31_212, x31_215, x31_216, x31_217, x31_218, x31_221, x31_222, x31_225, x31_226, x31_227, x31_230, x31_231, x31_232, x31_234, x31_235, x31_238, x31_239, x31_240, x31_243, x31_245, x31_246, x31_249, x31_250, x31_251, x31_252, x31_255, x31_256, x31_259, x31_260, x31_261, x31_264, x31_265, x31_266, x31_269, x31_272, x31_273, x31_273i, x31_274, x31_277, x31_278, x31_279, x31_282, x31_283, fcn_0_33, fcn_0_35, fcn_0_36, fcn_0_37, fcn_0_38, fcn_0_41, fcn_0_42, fcn_0_43, fcn_0_44, fcn_0_45, fcn_0_46, fcn_0_47, fcn_0_48, fcn_0_9, if_true, if_false, eq_self, Int.reduceEq, Int.reduceLT, Int.reduceLE, Int.reduceAdd, Int.reduceSub, Int.reduceMul, Int.reduceToNat, Nat.reduceAdd, Nat.reduceMul, Nat.reduceEqDiff, Int.toNat_natCast, wrap_id, g1, r1, g4, hD, hsg, q1, zcI_r, op1, le1, sg1, mu_c, hs2, if_neg (show ¬ 24 < (sg.length : Int) + 1 by omega)]
      generalize hs3 : mu (mu (mu (mu (mu s2 35 sg.length 4) 36 sg.length nm) 37 sg.length 0) 38 sg.length 0) 39 sg.length b = s3
      have F3 : Fr (fun c j => 35 ≤ c ∧ c ≤ 39 ∧ j = sg.length) s2 s3 := by
        rw [← hs3]
        exact (((((Fr.rf s2).mu ⟨by decide, by decide, rfl⟩).mu ⟨by decide, by decide, rfl⟩).mu ⟨by decide, by decide, rfl⟩).mu ⟨by decide, by decide, rfl⟩).mu ⟨by decide, by decide, rfl⟩
      have hz2 : Ze d 31 135 [aR 0, aI k, aI nm, aI 1, aI 0, aU] [] s2 = rI 1 (mu s3 0 50 ((sg.length : Int) + 1)) := by
        have op3 : s3 25 k = 5 := by rw [F3 _ _ (by omega), op2]
        have sg3 : s3 0 50 = sg.length := by rw [F3 _ _ (by omega), sg2]
        have e0 : ((sg.length : Int) + 0).toNat = sg.length := by omega
        rw [x31_135]
        simp (disch := first | exact obC_0 | omega | (simp only [aN1_25, aN1_27, aN1_28, aN1_29, aN1_30, aN1_32, aN1_33, aN1_34, aN1_35, aN1_36, aN1_37, aN1_38, aN1_39, aN1_5]; omega) | (simp only [List.length_cons, List.length_nil]; omega)) only [en31, x31_0, x31_1, x31_4, x31_5, x31_6, x31_7, x31_8, x31_11, x31_12, x31_13, x31_14, x31_17, x31_18, x31_21, x31_22, x31_25, x31_26, x31_29, x31_30, x31_31, x31_32, x31_33, x31_34, x31_37, x31_38, x31_39, x31_42, x31_43, x31_46, x31_47, x31_48, x31_50, x31_53, x31_54, x31_55, x31_56, x31_59, x31_60, x31_61, x31_62, x31_65, x31_66, x31_67, x31_70, x31_71, x31_72, x31_75, x31_77, x31_79, x31_82, x31_83, x31_84, x31_85, x31_88, x31_89, x31_90, x31_93, x31_94, x31_95, x31_96, x31_97, x31_100, x31_101, x31_102, x31_105, x31_106, x31_107, x31_108, x31_111, x31_112, x31_115, x31_116, x31_119, x31_120, x31_121, x31_122, x31_123, x31_126, x31_127, x31_128, x31_131, x31_132, x31_133, x31_137, x31_138, x31_141, x31_142, x31_145, x31_147, x31_148, x31_150, x31_151, x31_154, x31_156, x31_157, x31_160, x31_161, x31_162, x31_163, x31_164, x31_167, x31_169, x31_170, x31_171, x31_172, x31_175, x31_177, x31_178, x31_181, x31_182, x31_183, x31_184, x31_187, x31_188, x31_191, x31_192, x31_193, x31_196, x31_197, x31_198, x31_200, x31_201, x31_204, x31_205, x31_206, x31_209, x31_211, x31_212, x31_215, x31_216, x31_217, x31_218, x31_221, x31_222, x31_225, x31_226, x31_227, x31_230, x31_231, x31_232, x31_234, x31_235, x31_238, x31_239, x31_240, x31_243, x31_245, x31_246, x31_249, x31_250, x31_251, x31_252, x31_255, x31_256, x31_259, x31_260, x31_261, x31_264, x31_265, x31_266, x31_269, x31_272, x31_273, x31_273i, x31_274, x31_277, x31_278, x31_279, x31_282, x31_283, fcn_0_33, fcn_0_35, fcn_0_36, fcn_0_37, fcn_0_38, fcn_0_41, fcn_0_42, fcn_0_43, fcn_0_44, fcn_0_45, fcn_0_46, fcn_0_47, fcn_0_48, fcn_0_9, if_true, if_false, eq_self, Int.reduceEq, Int.reduceLT, Int.reduceLE, Int.reduceAdd, Int.reduceSub, Int.reduceMul, Int.reduceToNat, Nat.reduceAdd, Nat.reduceMul, Nat.reduceEqDiff, Int.toNat_natCast, wrap_id, e0, sg2, op2, le2, ri2, mu_c, hs3]
        rw [x31_135]
        simp (disch := first | exact obC_0 | omega | (simp only [aN1_25, aN1_27, aN1_28, aN1_29, aN1_30, aN1_32, aN1_33, aN1_34, aN1_35, aN1_36, aN1_37, aN1_38, aN1_39, aN1_5]; omega) | (simp only [List.length_cons, List.length_nil]; omega)) only [en31, x31_0, x31_1, x31_4, x31_5, x31_6, x31_7, x31_8, x31_11, x31_12, x31_13, x31_14, x31_17, x31_18, x31_21, x31_22, x31_25, x31_26, x31_29, x31_30, x31_31, x31_32, x31_33, x31_34, x31_37, x31_38, x31_39, x31_42, x31_43, x31_46, x31_47, x31_48, x31_50, x31_53, x31_54, x31_55, x31_56, x31_59, x31_60, x31_61, x31_62, x31_65, x31_66, x31_67, x31_70, x31_71, x31_72, x31_75, x31_77, x31_79, x31_82, x31_83, x31_84, x31_85, x31_88, x31_89, x31_90, x31_93, x31_94, x31_95, x31_96, x31_97, x31_100, x31_101, x31_102, x31_105, x31_106, x31_107, x31_108, x31_111, x31_112, x31_115, x31_116, x31_119, x31_120, x31_121, x31_122, x31_123, x31_126, x31_127, x31_128, x31_131, x31_132, x31_133, x31_137, x31_138, x31_141, x31_142, x31_145, x31_147, x31_148, x31_150, x31_151, x31_154, x31_156, x31_157, x31_160, x31_161, x31_162, x31_163, x31_164, x31_167, x31_169, x31_170, x31_171, x31_172, x31_175, x31_177, x31_178, x31_181, x31_182, x31_183, x31_184, x31_187, x31_188, x31_191, x31_192, x31_193, x31_196, x31_197, x31_198, x31_200, x31_201, x31_204, x31_205, x31_206, x31_209, x31_211, x31_212, x31_215, x31_216, x31_217, x31_218, x31_221, x31_222, x31_225, x31_226, x31_227, x31_230, x31_231, x31_232, x31_234, x31_235, x31_238, x31_239, x31_240, x31_243, x31_245, x31_246, x31_249, x31_250, x31_251, x31_252, x31_255, x31_256, x31_259, x31_260, x31_261, x31_264, x31_265, x31_266, x31_269, x31_272, x31_273, x31_273i, x31_274, x31_277, x31_278, x31_279, x31_282, x31_283, fcn_0_33, fcn_0_35, fcn_0_36, fcn_0_37, fcn_0_38, fcn_0_41, fcn_0_42, fcn_0_43, fcn_0_44, fcn_0_45, fcn_0_46, fcn_0_47, fcn_0_48, fcn_0_9, if_true, if_false, eq_self, Int.reduceEq, Int.reduceLT, Int.reduceLE, Int.reduceAdd, Int.reduceSub, Int.reduceMul, Int.reduceToNat, Nat.reduceAdd, Nat.reduceMul, Nat.reduceEqDiff, Int.toNat_natCast, wrap_id, sg3]
      have F : Fr (fun c j => FST b (b + esz e) c j ∨ (32 ≤ c ∧ c ≤ 34 ∧ j = nm) ∨ (c = 0 ∧ j = 50) ∨ (35 ≤ c ∧ c ≤ 39 ∧ j = sg.length)) s (mu s3 0 50 ((sg.length : Int) + 1)) :=
        (((q3.mono (fun c j z => Or.inl z)).tr (F2.mono (fun c j z => Or.inr (Or.inl z)))).tr (F3.mono (fun c j z => Or.inr (Or.inr (Or.inr z))))).mu (Or.inr (Or.inr (Or.inl ⟨rfl, rfl⟩)))
      have Fno : ∀ c j, c ≠ 0 → c ≠ 15 → ¬ (32 ≤ c ∧ c ≤ 34 ∧ j = nm) → ¬ (35 ≤ c ∧ c ≤ 39 ∧ j = sg.length) → mu s3 0 50 ((sg.length : Int) + 1) c j = s c j := fun c j h1 h2 h3 h4 => F _ _ (fun z => z.elim (fun z => FST_k ⟨h1, h2⟩ z) (fun z => z.elim h3 (fun z => z.elim (fun z => h1 z.1) h4)))
      have A : AR s (mu s3 0 50 ((sg.length : Int) + 1)) 0 n := fun c j hc h1 h2 => F _ _ (by
        rintro (z | z | z | z)
        · exact FST_o (by omega) (Or.inl (Nat.lt_of_lt_of_le h2 g5)) z
        · omega
        · omega
        · omega)
      have R4 : RR (mu s3 0 50 ((sg.length : Int) + 1)) e' b := RR_put q2 (fun c j hc _ _ => by rw [mu_c (by omega), F3 _ _ (by omega), F2 _ _ (by omega)])
      have k3 : ∀ {c j : Nat}, c < 35 → s3 c j = s2 c j := fun h1 => F3 _ _ (by omega)
      refine ⟨_, hz1.trans hz2, ⟨?_, ?_, ?_, ?_, ?_, ?_, ?_⟩, ?_, ?_, F.mono (fun c j z => ?_)⟩
      · refine EN_up (fun d hd hdn => E1_put (fun k j h => Fno _ _ (by omega) (by omega) (by omega) (by omega)) (Fno _ _ (by decide) (by decide) (by omega) (by omega)) (Fno _ _ (by decide) (by decide) (by omega) (by omega)) (Fno _ _ (by decide) (by decide) (by omega) (by omega)) (hEN d hd)) ?_ ?_ ?_ hz
        · rw [mu_c (by decide), k3 (by decide), ← hs2, mu_c (by decide), mu_c (by decide), mu_s]; decide
        · rw [mu_c (by decide), k3 (by decide), ← hs2, mu_s]
        · rw [mu_c (by decide), k3 (by decide), ← hs2, mu_c (by decide), mu_s]
          exact Or.inl ⟨rfl, rfl⟩
      · refine eOK_up hOK ?_ ?_ (by decide) (by decide)
        · rw [List.length_append]; omega
        · rw [List.length_append]; exact Nat.le_refl _
      · rw [mu_s, List.length_append]; rfl
      · rw [List.length_append]; exact hz
      · refine SGs_app (SGs_put hn A (fun c j hc hj => Fno _ _ (by omega) (by omega) (by omega) (by omega)) hSG) (fun j x hx => ?_)
        have hj : j = 0 := by
          have := (List.getElem?_eq_some_iff.mp hx).1
          rw [List.length_singleton] at this
          omega
        subst hj
        cases hx
        refine ⟨?_, ?_, ?_, ?_, Or.inr ⟨b, ?_, R4, by rw [hze]; exact g7⟩⟩
        · rw [mu_c (by decide), ← hs3, mu_c (by decide), mu_c (by decide), mu_c (by decide), mu_c (by decide), Nat.add_zero, mu_s]; rfl
        · rw [mu_c (by decide), ← hs3, mu_c (by decide), mu_c (by decide), mu_c (by decide), Nat.add_zero, mu_s]
        · rw [mu_c (by decide), ← hs3, mu_c (by decide), mu_c (by decide), Nat.add_zero, mu_s]; rfl
        · rw [mu_c (by decide), ← hs3, mu_c (by decide), Nat.add_zero, mu_s]; rfl
        · rw [mu_c (by decide), ← hs3, Nat.add_zero, mu_s]
      · rw [mu_i (by decide), F3 _ _ (by omega), F2 _ _ (by omega), q3 _ _ (by unfold FST FND; omega), hlo, List.append_nil]
      · rw [List.append_nil]
        exact LOs_put hn A (fun c j hc hj => Fno _ _ (by omega) (by omega) (by omega) (by omega)) hLO
      · rw [mu_i (by decide), F3 _ _ (by omega), F2 _ _ (by omega), q3 _ _ (by unfold FST FND; omega)]
        simp
      · unfold cv1
        rw [if_pos (Or.inl h5), he, hq]
        unfold nsz at hnz
        rw [if_neg (by omega), if_pos (Or.inr h5), he] at hnz
        have hbn : b = n := by omega
        subst hbn
        exact ⟨R4, by rw [hze]; exact hnz.symm⟩
      · rcases z with z | z | z | z
        · exact FST_CF (FST_sub g5 g7 z)
        · exact Or.inr (Or.inl ⟨z.1, z.2.1⟩)
        · exact Or.inl ⟨z.1, Or.inl z.2⟩
        · exact Or.inr (Or.inr (Or.inl ⟨z.1, z.2.1, by omega⟩))
  · rw [if_neg hok]
    refine ⟨s, ?_, Fr.rf s⟩
    cases hen : env nm with
    | none =>
      have hz : ¬ sg.length + 1 ≤ 24 := fun z => hok ⟨hen, z⟩
      rw [hen] at hD
      have hD : s 32 nm = -1 := hD
      simp (disch := first | exact obC_0 | omega | (simp only [aN1_25, aN1_27, aN1_28, aN1_29, aN1_30, aN1_32, aN1_33, aN1_34, aN1_35, aN1_36, aN1_37, aN1_38, aN1_39, aN1_5]; omega) | (simp only [List.length_cons, List.length_nil]; omega)) only [en31, x31_0, x31_1, x31_4, x31_5, x31_6, x31_7, x31_8, x31_11, x31_12, x31_13, x31_14, x31_17, x31_18, x31_21, x31_22, x31_25, x31_26, x31_29, x31_30, x31_31, x31_32, x31_33, x31_34, x31_37, x31_38, x31_39, x31_42, x31_43, x31_46, x31_47, x31_48, x31_50, x31_53, x31_54, x31_55, x31_56, x31_59, x31_60, x31_61, x31_62, x31_65, x31_66, x31_67, x31_70, x31_71, x31_72, x31_75, x31_77, x31_79, x31_82, x31_83, x31_84, x31_85, x31_88, x31_89, x31_90, x31_93, x31_94, x31_95, x31_96, x31_97, x31_100, x31_101, x31_102, x31_105, x31_106, x31_107, x31_108, x31_111, x31_112, x31_115, x31_116, x31_119, x31_120, x31_121, x31_122, x31_123, x31_126, x31_127, x31_128, x31_131, x31_132, x31_133, x31_137, x31_138, x31_141, x31_142, x31_145, x31_147, x31_148, x31_150, x31_151, x31_154, x31_156, x31_157, x31_160, x31_161, x31_162, x31_163, x31_164, x31_167, x31_169, x31_170, x31_171, x31_172, x31_175, x31_177, x31_178, x31_181, x31_182, x31_183, x31_184, x31_187, x31_188, x31_191, x31_192, x31_193, x31_196, x31_197, x31_198, x31_200, x31_201, x31_204, x31_205, x31_206, x31_209, x31_211, x31_212, x31_215, x31_216, x31_217, x31_218, x31_221, x31_222, x31_225, x31_226, x31_227, x31_230, x31_231, x31_232, x31_234, x31_235, x31_238, x31_239, x31_240, x31_243, x31_245, x31_246, x31_249, x31_250, x31_251, x31_252, x31_255, x31_256, x31_259, x31_260, x31_261, x31_264, x31_265, x31_266, x31_269, x31_272, x31_273, x31_273i, x31_274, x31_277, x31_278, x31_279, x31_282, x31_283, fcn_0_33, fcn_0_35, fcn_0_36, fcn_0_37, fcn_0_38, fcn_0_41, fcn_0_42, fcn_0_43, fcn_0_44, fcn_0_45, fcn_0_46, fcn_0_47, fcn_0_48, fcn_0_9, if_true, if_false, eq_self, Int.reduceEq, Int.reduceLT, Int.reduceLE, Int.reduceAdd, Int.reduceSub, Int.reduceMul, Int.reduceToNat, Nat.reduceAdd, Nat.reduceMul, Nat.reduceEqDiff, Int.toNat_natCast, wrap_id, g1, r1, hD, hsg, if_pos (show 24 < (sg.length : Int) + 1 by omega)]
    | some tb =>
      obtain ⟨t', b⟩ := tb
      rw [hen] at hD
      obtain ⟨d1, -⟩ := hD
      simp (disch := first | exact obC_0 | omega | (simp only [aN1_25, aN1_27, aN1_28, aN1_29, aN1_30, aN1_32, aN1_33, aN1_34, aN1_35, aN1_36, aN1_37, aN1_38, aN1_39, aN1_5]; omega) | (simp only [List.length_cons, List.length_nil]; omega)) only [en31, x31_0, x31_1, x31_4, x31_5, x31_6, x31_7, x31_8, x31_11, x31_12, x31_13, x31_14, x31_17, x31_18, x31_21, x31_22, x31_25, x31_26, x31_29, x31_30, x31_31, x31_32, x31_33, x31_34, x31_37, x31_38, x31_39, x31_42, x31_43, x31_46, x31_47, x31_48, x31_50, x31_53, x31_54, x31_55, x31_56, x31_59, x31_60, x31_61, x31_62, x31_65, x31_66, x31_67, x31_70, x31_71, x31_72, x31_75, x31_77, x31_79, x31_82, x31_83, x31_84, x31_85, x31_88, x31_89, x31_90, x31_93, x31_94, x31_95, x31_96, x31_97, x31_100, x31_101, x31_102, x31_105, x31_106, x31_107, x31_108, x31_111, x31_112, x31_115, x31_116, x31_119, x31_120, x31_121, x31_122, x31_123, x31_126, x31_127, x31_128, x31_131, x31_132, x31_133, x31_137, x31_138, x31_141, x31_142, x31_145, x31_147, x31_148, x31_150, x31_151, x31_154, x31_156, x31_157, x31_160, x31_161, x31_162, x31_163, x31_164, x31_167, x31_169, x31_170, x31_171, x31_172, x31_175, x31_177, x31_178, x31_181, x31_182, x31_183, x31_184, x31_187, x31_188, x31_191, x31_192, x31_193, x31_196, x31_197, x31_198, x31_200, x31_201, x31_204, x31_205, x31_206, x31_209, x31_211, x31_212, x31_215, x31_216, x31_217, x31_218, x31_221, x31_222, x31_225, x31_226, x31_227, x31_230, x31_231, x31_232, x31_234, x31_235, x31_238, x31_239, x31_240, x31_243, x31_245, x31_246, x31_249, x31_250, x31_251, x31_252, x31_255, x31_256, x31_259, x31_260, x31_261, x31_264, x31_265, x31_266, x31_269, x31_272, x31_273, x31_273i, x31_274, x31_277, x31_278, x31_279, x31_282, x31_283, fcn_0_33, fcn_0_35, fcn_0_36, fcn_0_37, fcn_0_38, fcn_0_41, fcn_0_42, fcn_0_43, fcn_0_44, fcn_0_45, fcn_0_46, fcn_0_47, fcn_0_48, fcn_0_9, if_true, if_false, eq_self, Int.reduceEq, Int.reduceLT, Int.reduceLE, Int.reduceAdd, Int.reduceSub, Int.reduceMul, Int.reduceToNat, Nat.reduceAdd, Nat.reduceMul, Nat.reduceEqDiff, Int.toNat_natCast, wrap_id, g1, r1, hsg, if_neg (show ¬ s 32 nm < 0 by omega)]
