theorem CS_none {n n' M C : Nat} {cv : List (Option Jvm.Term)} {sg : List Sg} {lo : List Lo} {s s' : Mem} {Z : Option Res} (h : Z = rI 0 s') (f : Fr (CF n n') s s') : CS n n' M C cv sg lo s Z none := ⟨s', h, f⟩
theorem prs_get {ty : Jvm.Term} {to fr i : Nat} {p : Nat × Nat} (h : (prs ty to fr)[i]? = some p) : i < tsz ty ∧ p = (if (lf ty i 0).2 % 2 = 1 then (fr + i, to + i) else (to + i, fr + i)) := by
  unfold prs at h
  have hi : i < tsz ty := by
    have := (List.getElem?_eq_some_iff.mp h).1
    rwa [List.length_map, List.length_range] at this
  rw [List.getElem?_map, List.getElem?_range hi] at h
  cases h
  exact ⟨hi, rfl⟩
theorem prs_len {ty : Jvm.Term} {to fr : Nat} : (prs ty to fr).length = tsz ty := by unfold prs; rw [List.length_map, List.length_range]
theorem prs_all {ty : Jvm.Term} {to fr : Nat} {P : Nat → Prop} : (∀ p, p ∈ prs ty to fr → P p.1) ↔ (∀ i, 0 ≤ i → i < tsz ty → P (if (lf ty i 0).2 % 2 = 1 then fr + i else to + i)) := by
  constructor
  · intro h i _ hi
    have := h (if (lf ty i 0).2 % 2 = 1 then (fr + i, to + i) else (to + i, fr + i)) (by
      unfold prs
      exact List.mem_map.mpr ⟨i, List.mem_range.mpr hi, rfl⟩)
    revert this
    split <;> exact id
  · intro h p hp
    unfold prs at hp
    obtain ⟨i, hi, rfl⟩ := List.mem_map.mp hp
    have := h i (Nat.zero_le _) (List.mem_range.mp hi)
    revert this
    split <;> exact id
theorem filter_map0 {l : List (Nat × Nat)} : ((l.map fun p => ((0, p.1, .index p.2) : Lo)).filter (fun x => x.1 == 0)).length = l.length := by
  induction l with
  | nil => rfl
  | cons a l ih =>
    rw [List.map_cons, List.filter_cons_of_pos (by rfl), List.length_cons, List.length_cons, ih]
theorem FND_no {k j : Nat} (h : k ≠ 0 ∨ (j ≠ 51 ∧ j ≠ 52 ∧ j ≠ 53)) : ¬ FND k j := by unfold FND; omega
theorem CK_fnd {s s' : Mem} {N M C : Nat} {env : EnvT} {sg : List Sg} {lo : List Lo} (f : Fr FND s s') (h : CK s N M C env sg lo) : CK s' N M C env sg lo := by
  obtain ⟨hEN, hOK, hsg, hsg24, hSG, hlo, hLO⟩ := h
  have k : ∀ {c j : Nat}, c ≠ 0 → s' c j = s c j := fun h => FND_k f h
  exact ⟨EN_put (fun c j z => k (by omega)) hEN, hOK, by rw [f _ _ (FND_no (Or.inr (by decide))), hsg], hsg24, SGs_put (Nat.le_refl _) (fun c j hc _ _ => k (by omega)) (fun c j hc _ => k (by omega)) hSG, by rw [f _ _ (FND_no (Or.inr (by decide))), hlo], LOs_put (Nat.le_refl _) (fun c j hc _ _ => k (by omega)) (fun c j hc _ => k (by omega)) hLO⟩
/-- the left side stands for one ground signal -/
theorem cn_ground {d M C n n' k a b to : Nat} {e : Jvm.Term} {env : EnvT} {sg : List Sg} {lo : List Lo} {s s1 : Mem} {ty : Int} (hd : 2 ≤ d) (hM : M ≤ 200) (hC : C ≤ 100) (hk : k < 120) (hn2 : n' ≤ 200) (hnb : n ≤ b) (hR : RE s1 e b) (hbn : b + esz e ≤ n') (hbd : ebd e) (hCK : CK s1 n M C env sg lo) (hl2 : lo.length + 24 ≤ 1100) (hto : to < sg.length) (f1 : Fr FND s s1) (hcn : ∃ c : Nat, s 0 58 = c ∧ c ≤ 1100) {Z : Option Res} (l3 : AV) (hex : b = n + 1 ∧ n' = b + esz e) (hL1 : s1 12 n = 0 ∧ s1 15 n = -1)
    (hZ : Z = Ze d 35 42 [aR 0, aI k, aI b, l3, aI to, aI ty, aI 1, aU, aU, aU, aU, aU, aU] [] s1) :
    CS n n' M C [none, rE env e] sg lo s Z (match cnG env sg to e with | some lo => some (env, sg, lo) | none => none) := by
  obtain ⟨c0, hc0, hc1⟩ := hcn
  have hEN := hCK.1
  have hpos := esz_pos e
  have hS := t_settles (d := d) (root := b) hd s1 hM hC (by omega) hR hEN hbd
  unfold cnG
  cases hq : rE env e with
  | none =>
    rw [hq] at hS
    obtain ⟨s2, q1, q2⟩ := hS
    refine CS_none (s' := s2) ?_ ((f1.mono (fun _ _ => FND_CF)).tr (q2.mono (fun c j z => FST_CF (FST_sub hnb hbn z))))
    rw [hZ]
    simp (disch := first | exact obC_0 | omega | (simp only [aN1_12, aN1_28, aN1_29, aN1_5]; omega) | (simp only [List.length_cons, List.length_nil]; omega)) only [en35, x35_0, x35_1, x35_4, x35_5, x35_6, x35_7, x35_8, x35_9, x35_12, x35_13, x35_14, x35_17, x35_18, x35_19, x35_22, x35_23, x35_24, x35_25, x35_28, x35_30, x35_31, x35_34, x35_36, x35_37, x35_40, x35_42, x35_44, x35_47, x35_48, x35_49, x35_52, x35_54, x35_56, x35_59, x35_60, x35_62, x35_65, x35_68, x35_69, x35_70, x35_71, x35_72, x35_74, x35_75, x35_78, x35_79, x35_79i, x35_80, x35_83, x35_84, x35_85, x35_88, x35_89, x35_90, x35_91, x35_94, x35_95, x35_96, x35_99, x35_100, x35_101, x35_104, x35_107, x35_108, x35_111, x35_112, x35_113, x35_114, x35_117, x35_118, x35_121, x35_124, x35_125, x35_126, x35_127, x35_130, x35_132, x35_133, x35_135, x35_136, x35_139, x35_142, x35_144, x35_146, x35_149, x35_150, x35_151, x35_152, x35_156, x35_157, x35_160, x35_162, x35_163, x35_166, x35_167, x35_169, x35_171, x35_172, x35_175, x35_176, x35_179, x35_180, x35_183, x35_184, x35_186, x35_188, x35_191, x35_193, x35_195, x35_196, x35_199, x35_201, x35_203, x35_204, x35_206, x35_208, x35_211, x35_213, x35_215, x35_216, x35_219, x35_221, x35_223, x35_224, x35_226, x35_227, x35_229, x35_232, x35_235, x35_236, x35_237, x35_238, x35_239, x35_241, x35_242, x35_244, x35_245, x35_248, x35_249, x35_249i, x35_250, x35_253, x35_254, x35_255, x35_258, x35_261, x35_264, x35_265, fcn_0_19, fcn_0_36, fcn_0_37, fcn_0_9, if_true, if_false, eq_self, Int.reduceEq, Int.reduceLT, Int.reduceLE, Int.reduceAdd, Int.reduceSub, Int.reduceMul, Int.reduceToNat, Nat.reduceAdd, Nat.reduceMul, Nat.reduceEqDiff, Int.toNat_natCast, wrap_id, q1, zcI_r]
  | some e' =>
    rw [hq] at hS
    obtain ⟨s2, q1, q2, q3⟩ := hS
    obtain ⟨hEN, hOK, hsg, hsg24, hSG, hlo, hLO⟩ := hCK
    have hze := rE_esz hq
    have A2 : AR s1 s2 0 n := fun c j hc h1 h2 => q3 _ _ (FST_o (by omega) (Or.inl (Nat.lt_of_lt_of_le h2 hnb)))
    have k2 : ∀ {c j : Nat}, c ≠ 0 → c ≠ 15 → s2 c j = s1 c j := fun h1 h2 => q3 _ _ (FST_k ⟨h1, h2⟩)
    have z2 : ∀ {j : Nat}, j ≠ 51 ∧ j ≠ 52 ∧ j ≠ 53 → s2 0 j = s1 0 j := fun h1 => q3 _ _ (by unfold FST FND; omega)
    have SG2 : SGs s2 n sg := SGs_put (Nat.le_refl _) A2 (fun c j hc hj => k2 (by omega) (by omega)) hSG
    obtain ⟨sk1, sk0⟩ := t_sk (d := d) (by omega) hto hsg24 SG2
    have F2 : Fr (CF n n') s s2 := (f1.mono (fun _ _ => FND_CF)).tr (q3.mono (fun c j z => FST_CF (FST_sub hnb hbn z)))
    dsimp only
    by_cases hs : skA sg to
    · rw [if_pos hs]
      have hsk := sk1 hs
      have hlow := t_step (d := d) (by omega) s2 (n := lo.length) (by rw [z2 (by decide), hlo]) (by omega) 0 to b
      obtain ⟨a1, a2, a3, a4⟩ := lStep_at (s := s2) (n := lo.length) (o := 0) (g := to) (e := b)
      have f3 : Fr (cxF lo.length 1100) s2 (lStep s2 lo.length 0 to b) := lStep_fr (Nat.le_refl _) (by omega)
      have c3 : lStep s2 lo.length 0 to b 0 58 = c0 := by rw [lStep_0 (by decide), z2 (by decide), f1 _ _ (FND_no (Or.inr (by decide))), hc0]
      generalize lStep s2 lo.length 0 to b = s3 at *
      have f4 : Fr (cxF lo.length 1100) s2 (mu s3 0 58 ((c0 : Int) + 1)) := f3.mu (Or.inl ⟨rfl, Or.inr rfl⟩)
      generalize hs4 : mu s3 0 58 ((c0 : Int) + 1) = s4 at *
      have k4 : ∀ {c j : Nat}, c ≠ 0 → s4 c j = s3 c j := fun h => by rw [← hs4, mu_c h]
      have kk : ∀ {c j : Nat}, 1 ≤ c ∧ c ≤ 40 → s4 c j = s2 c j := fun h => f4 _ _ (by unfold cxF; omega)
      have A4 : ∀ N, AR s2 s4 0 N := fun N c j hc _ _ => kk (by omega)
      refine ⟨s4, ?_, ⟨?_, hOK, ?_, hsg24, ?_, ?_, ?_⟩, ?_, ?_, ?_⟩
      · rw [hZ]
        simp (disch := first | exact obC_0 | omega | (simp only [aN1_12, aN1_28, aN1_29, aN1_5]; omega) | (simp only [List.length_cons, List.length_nil]; omega)) only [en35, x35_0, x35_1, x35_4, x35_5, x35_6, x35_7, x35_8, x35_9, x35_12, x35_13, x35_14, x35_17, x35_18, x35_19, x35_22, x35_23, x35_24, x35_25, x35_28, x35_30, x35_31, x35_34, x35_36, x35_37, x35_40, x35_42, x35_44, x35_47, x35_48, x35_49, x35_52, x35_54, x35_56, x35_59, x35_60, x35_62, x35_65, x35_68, x35_69, x35_70, x35_71, x35_72, x35_74, x35_75, x35_78, x35_79, x35_79i, x35_80, x35_83, x35_84, x35_85, x35_88, x35_89, x35_90, x35_91, x35_94, x35_95, x35_96, x35_99, x35_100, x35_101, x35_104, x35_107, x35_108, x35_111, x35_112, x35_113, x35_114, x35_117, x35_118, x35_121, x35_124, x35_125, x35_126, x35_127, x35_130, x35_132, x35_133, x35_135, x35_136, x35_139, x35_142, x35_144, x35_146, x35_149, x35_150, x35_151, x35_152, x35_156, x35_157, x35_160, x35_162, x35_163, x35_166, x35_167, x35_169, x35_171, x35_172, x35_175, x35_176, x35_179, x35_180, x35_183, x35_184, x35_186, x35_188, x35_191, x35_193, x35_195, x35_196, x35_199, x35_201, x35_203, x35_204, x35_206, x35_208, x35_211, x35_213, x35_215, x35_216, x35_219, x35_221, x35_223, x35_224, x35_226, x35_227, x35_229, x35_232, x35_235, x35_236, x35_237, x35_238, x35_239, x35_241, x35_242, x35_244, x35_245, x35_248, x35_249, x35_249i, x35_250, x35_253, x35_254, x35_255, x35_258, x35_261, x35_264, x35_265, fcn_0_19, fcn_0_36, fcn_0_37, fcn_0_9, if_true, if_false, eq_self, Int.reduceEq, Int.reduceLT, Int.reduceLE, Int.reduceAdd, Int.reduceSub, Int.reduceMul, Int.reduceToNat, Nat.reduceAdd, Nat.reduceMul, Nat.reduceEqDiff, Int.toNat_natCast, wrap_id, q1, hsk, hlow, c3, hs4, zcI_r, zcV_r]
      · exact EN_put (fun c j z => by rw [kk (by omega), k2 (by omega) (by omega)]) hEN
      · rw [f4 _ _ (by unfold cxF; omega), z2 (by decide), hsg]
      · exact SGs_put (by omega) (A4 n) (fun c j hc _ => kk (by omega)) SG2
      · rw [← hs4, mu_i (by decide), a4, List.length_append]; rfl
      · refine LOs_app (LOs_put (by omega) (A4 n) (fun c j hc hj => f4 _ _ (by unfold cxF; omega)) (LOs_put (Nat.le_refl _) A2 (fun c j hc hj => k2 (by omega) (by omega)) hLO)) (fun i x hx => ?_)
        have hi : i = 0 := by
          have := (List.getElem?_eq_some_iff.mp hx).1
          rw [List.length_singleton] at this
          omega
        subst hi
        cases hx
        refine ⟨by rw [Nat.add_zero, k4 (by decide), a1]; rfl, fun _ => ⟨by rw [Nat.add_zero, k4 (by decide), a2], Nat.lt_of_lt_of_le hto hsg24, Or.inr ⟨b, by rw [Nat.add_zero, k4 (by decide), a3], RR_put q2 (fun c j hc _ _ => kk (by omega)), by rw [hze]; exact hbn⟩⟩, fun z => absurd (show (0 : Nat) = 1 from z) (by decide)⟩
      · rw [← hs4, mu_s, hc0]; rfl
      · obtain ⟨x1, x2⟩ := hex
        subst x1
        exact ⟨by rw [kk (by decide), k2 (by decide) (by decide), hL1.1], by rw [kk (by decide), q3 _ _ (FST_o (by decide) (Or.inl (Nat.lt_succ_self _))), hL1.2], RR_put q2 (fun c j hc _ _ => kk (by omega)), by rw [hze]; exact x2.symm⟩
      · refine F2.tr (f4.mono (fun c j z => ?_))
        rcases z with ⟨z1, z2 | z2⟩ | z
        · exact Or.inl ⟨z1, by omega⟩
        · exact Or.inl ⟨z1, by omega⟩
        · exact Or.inr (Or.inr (Or.inr (Or.inl ⟨z.1, z.2.1, z.2.2.2⟩)))
    · rw [if_neg hs]
      have hsk := sk0 hs
      refine CS_none (s' := s2) ?_ F2
      rw [hZ]
      simp (disch := first | exact obC_0 | omega | (simp only [aN1_12, aN1_28, aN1_29, aN1_5]; omega) | (simp only [List.length_cons, List.length_nil]; omega)) only [en35, x35_0, x35_1, x35_4, x35_5, x35_6, x35_7, x35_8, x35_9, x35_12, x35_13, x35_14, x35_17, x35_18, x35_19, x35_22, x35_23, x35_24, x35_25, x35_28, x35_30, x35_31, x35_34, x35_36, x35_37, x35_40, x35_42, x35_44, x35_47, x35_48, x35_49, x35_52, x35_54, x35_56, x35_59, x35_60, x35_62, x35_65, x35_68, x35_69, x35_70, x35_71, x35_72, x35_74, x35_75, x35_78, x35_79, x35_79i, x35_80, x35_83, x35_84, x35_85, x35_88, x35_89, x35_90, x35_91, x35_94, x35_95, x35_96, x35_99, x35_100, x35_101, x35_104, x35_107, x35_108, x35_111, x35_112, x35_113, x35_114, x35_117, x35_118, x35_121, x35_124, x35_125, x35_126, x35_127, x35_130, x35_132, x35_133, x35_135, x35_136, x35_139, x35_142, x35_144, x35_146, x35_149, x35_150, x35_151, x35_152, x35_156, x35_157, x35_160, x35_162, x35_163, x35_166, x35_167, x35_169, x35_171, x35_172, x35_175, x35_176, x35_179, x35_180, x35_183, x35_184, x35_186, x35_188, x35_191, x35_193, x35_195, x35_196, x35_199, x35_201, x35_203, x35_204, x35_206, x35_208, x35_211, x35_213, x35_215, x35_216, x35_219, x35_221, x35_223, x35_224, x35_226, x35_227, x35_229, x35_232, x35_235, x35_236, x35_237, x35_238, x35_239, x35_241, x35_242, x35_244, x35_245, x35_248, x35_249, x35_249i, x35_250, x35_253, x35_254, x35_255, x35_258, x35_261, x35_264, x35_265, fcn_0_19, fcn_0_36, fcn_0_37, fcn_0_9, if_true, if_false, eq_self, Int.reduceEq, Int.reduceLT, Int.reduceLE, Int.reduceAdd, Int.reduceSub, Int.reduceMul, Int.reduceToNat, Nat.reduceAdd, Nat.reduceMul, Nat.reduceEqDiff, Int.toNat_natCast, wrap_id, q1, hsk, zcI_r]
theorem RE_kind {s : Mem} {e : Jvm.Term} {n : Nat} (h : RE s e n) : (s 12 n = 0 ∧ ∃ nm r, e = .add (.arg nm) r ∧ s 13 n = (nm : Nat) ∧ nm < 26 ∧ RPath s n r 0 ∧ s 15 n = -1) ∨ (¬ s 12 n = 0 ∧ ∀ nm r, e ≠ .add (.arg nm) r) := by
  revert h
  fun_cases RE s e n with
  | case1 a => exact fun h => Or.inr ⟨by rw [h.1]; decide, fun _ _ => nofun⟩
  | case2 h l a => exact fun h => Or.inr ⟨by rw [h.1]; decide, fun _ _ => nofun⟩
  | case3 c a b => exact fun h => Or.inr ⟨by rw [h.1]; have := h.2.1; unfold two at this; omega, fun _ _ => nofun⟩
  | case4 c a b => exact fun h => Or.inr ⟨by rw [h.1]; decide, fun _ _ => nofun⟩
  | case5 nm r => exact fun h => Or.inl ⟨h.1, nm, r, rfl, h.2.1, h.2.2.1, h.2.2.2.1, h.2.2.2.2.2⟩
  | case6 v => exact fun h => Or.inr ⟨by rw [h.1]; decide, fun _ _ => nofun⟩
  | case7 => intro h; exact h.elim
/-- the left side stands for more than one -/
theorem cn_bundle {d M C n n' k b to : Nat} {e : Jvm.Term} {t : Jvm.Term} {env : EnvT} {sg : List Sg} {lo : List Lo} {s s1 : Mem} {ty : Int} (hd : 2 ≤ d) (hM : M ≤ 200) (hC : C ≤ 100) (hk : k < 120) (hn2 : n' ≤ 200) (hnn : n ≤ n') (hnb : n ≤ b) (hR : RE s1 e b) (hbn : b + esz e ≤ n') (hbd : ebd e) (hCK : CK s1 n M C env sg lo) (hl2 : lo.length + 24 ≤ 1100) (hT : RT s1 0 M 0 C true t ty) (hto : to + tsz t ≤ sg.length) (hdp : dpt t ≤ 9) (f1 : Fr FND s s1) (hcn : ∃ c : Nat, s 0 58 = c ∧ c ≤ 1100) {Z : Option Res} (l3 : AV) (hex : b = n + 1 ∧ n' = b + esz e) (hL1 : s1 12 n = 0 ∧ s1 15 n = -1)
    (hZ : Z = Ze d 35 42 [aR 0, aI k, aI b, l3, aI to, aI ty, aI 0, aU, aU, aU, aU, aU, aU] [] s1) :
    CS n n' M C [none, none] sg lo s Z (match cnB env sg to t e with | some lo => some (env, sg, lo) | none => none) := by
  obtain ⟨c0, hc0, hc1⟩ := hcn
  have hEN := hCK.1
  have hpos := esz_pos e
  obtain ⟨g1, nm, r, rfl, g2, g3, g4, gpa⟩ | ⟨g1, g2⟩ := RE_kind hR
  · have hbd' : pbd r := hbd
    have hL := t_resolve (d := d) (by omega) s1 (n := b) (by omega) hM hC hEN g2 g3 g4 hbd'
    have hcB : cnB env sg to t (.add (.arg nm) r) = match lk env nm r with
      | some (fr, ty2, _) => if isGr ty2 = true then none else if alk t ty2 = true then
          @ite _ (∀ p, p ∈ prs t to fr → skA sg p.1) (Classical.propDecidable _) (some ((prs t to fr).map fun p => (0, p.1, .index p.2))) none
        else none
      | none => none := rfl
    rw [hcB]
    cases hq : lk env nm r with
    | none =>
      rw [hq] at hL
      obtain ⟨s2, q1, q2⟩ := hL
      refine CS_none (s' := s2) ?_ ((f1.tr q2).mono (fun _ _ => FND_CF))
      rw [hZ]
      simp (disch := first | exact obC_0 | omega | (simp only [aN1_12, aN1_28, aN1_29, aN1_5]; omega) | (simp only [List.length_cons, List.length_nil]; omega)) only [en35, x35_0, x35_1, x35_4, x35_5, x35_6, x35_7, x35_8, x35_9, x35_12, x35_13, x35_14, x35_17, x35_18, x35_19, x35_22, x35_23, x35_24, x35_25, x35_28, x35_30, x35_31, x35_34, x35_36, x35_37, x35_40, x35_42, x35_44, x35_47, x35_48, x35_49, x35_52, x35_54, x35_56, x35_59, x35_60, x35_62, x35_65, x35_68, x35_69, x35_70, x35_71, x35_72, x35_74, x35_75, x35_78, x35_79, x35_79i, x35_80, x35_83, x35_84, x35_85, x35_88, x35_89, x35_90, x35_91, x35_94, x35_95, x35_96, x35_99, x35_100, x35_101, x35_104, x35_107, x35_108, x35_111, x35_112, x35_113, x35_114, x35_117, x35_118, x35_121, x35_124, x35_125, x35_126, x35_127, x35_130, x35_132, x35_133, x35_135, x35_136, x35_139, x35_142, x35_144, x35_146, x35_149, x35_150, x35_151, x35_152, x35_156, x35_157, x35_160, x35_162, x35_163, x35_166, x35_167, x35_169, x35_171, x35_172, x35_175, x35_176, x35_179, x35_180, x35_183, x35_184, x35_186, x35_188, x35_191, x35_193, x35_195, x35_196, x35_199, x35_201, x35_203, x35_204, x35_206, x35_208, x35_211, x35_213, x35_215, x35_216, x35_219, x35_221, x35_223, x35_224, x35_226, x35_227, x35_229, x35_232, x35_235, x35_236, x35_237, x35_238, x35_239, x35_241, x35_242, x35_244, x35_245, x35_248, x35_249, x35_249i, x35_250, x35_253, x35_254, x35_255, x35_258, x35_261, x35_264, x35_265, fcn_0_19, fcn_0_36, fcn_0_37, fcn_0_9, if_true, if_false, eq_self, Int.reduceEq, Int.reduceLT, Int.reduceLE, Int.reduceAdd, Int.reduceSub, Int.reduceMul, Int.reduceToNat, Nat.reduceAdd, Nat.reduceMul, Nat.reduceEqDiff, Int.toNat_natCast, wrap_id, g1, q1, zcI_r]
    | some x =>
      obtain ⟨fr, t2, f⟩ := x
      rw [hq] at hL
      obtain ⟨s2, q1, q2, q3, q4, q5, q6, q7⟩ := hL
      obtain ⟨w1, w2⟩ := lk_ok hCK.2.1 hq
      have hCK2 := CK_fnd q7 hCK
      have q4' := TY_put (fun c j z => FND_k q7 (by omega)) q4
      have hG := t_isGround (d := d) (by omega) s2 hM q4'
      dsimp only
      by_cases hg : isGr t2 = true
      · rw [if_pos hg] at hG ⊢
        refine CS_none (s' := s2) ?_ ((f1.tr q7).mono (fun _ _ => FND_CF))
        rw [hZ]
        simp (disch := first | exact obC_0 | omega | (simp only [aN1_12, aN1_28, aN1_29, aN1_5]; omega) | (simp only [List.length_cons, List.length_nil]; omega)) only [en35, x35_0, x35_1, x35_4, x35_5, x35_6, x35_7, x35_8, x35_9, x35_12, x35_13, x35_14, x35_17, x35_18, x35_19, x35_22, x35_23, x35_24, x35_25, x35_28, x35_30, x35_31, x35_34, x35_36, x35_37, x35_40, x35_42, x35_44, x35_47, x35_48, x35_49, x35_52, x35_54, x35_56, x35_59, x35_60, x35_62, x35_65, x35_68, x35_69, x35_70, x35_71, x35_72, x35_74, x35_75, x35_78, x35_79, x35_79i, x35_80, x35_83, x35_84, x35_85, x35_88, x35_89, x35_90, x35_91, x35_94, x35_95, x35_96, x35_99, x35_100, x35_101, x35_104, x35_107, x35_108, x35_111, x35_112, x35_113, x35_114, x35_117, x35_118, x35_121, x35_124, x35_125, x35_126, x35_127, x35_130, x35_132, x35_133, x35_135, x35_136, x35_139, x35_142, x35_144, x35_146, x35_149, x35_150, x35_151, x35_152, x35_156, x35_157, x35_160, x35_162, x35_163, x35_166, x35_167, x35_169, x35_171, x35_172, x35_175, x35_176, x35_179, x35_180, x35_183, x35_184, x35_186, x35_188, x35_191, x35_193, x35_195, x35_196, x35_199, x35_201, x35_203, x35_204, x35_206, x35_208, x35_211, x35_213, x35_215, x35_216, x35_219, x35_221, x35_223, x35_224, x35_226, x35_227, x35_229, x35_232, x35_235, x35_236, x35_237, x35_238, x35_239, x35_241, x35_242, x35_244, x35_245, x35_248, x35_249, x35_249i, x35_250, x35_253, x35_254, x35_255, x35_258, x35_261, x35_264, x35_265, fcn_0_19, fcn_0_36, fcn_0_37, fcn_0_9, if_true, if_false, eq_self, Int.reduceEq, Int.reduceLT, Int.reduceLE, Int.reduceAdd, Int.reduceSub, Int.reduceMul, Int.reduceToNat, Nat.reduceAdd, Nat.reduceMul, Nat.reduceEqDiff, Int.toNat_natCast, wrap_id, g1, q1, hG, zcI_r]
      · rw [if_neg hg] at hG ⊢
        have T2 : RT s2 0 M 0 C true t2 (s2 0 52) := q4'.resolve_left (fun z => hg (by rw [z.2]; rfl))
        have T1 : RT s2 0 M 0 C true t ty := RT_put (fun c j z => FND_k q7 (by omega)) hT
        obtain ⟨s3, p1, p2⟩ := t_alike (d := d) (by omega) hM hC s2 T1 T2 (by have := hCK.2.2.2.1; omega)
        have F3 : Fr (CF n n') s s3 := ((f1.tr q7).mono (fun _ _ => FND_CF)).tr (p2.mono (fun _ _ => WO_CF))
        by_cases ha : alk t t2 = true
        · rw [if_pos ha] at p1 ⊢
          obtain ⟨hEN2, hOK, hsg, hsg24, hSG, hlo, hLO⟩ := hCK2
          have o3 : ∀ {c j : Nat}, c ≠ 22 → s3 c j = s2 c j := fun h => p2 _ _ h
          have A3 : ∀ N, AR s2 s3 0 N := fun N c j hc _ _ => o3 (by omega)
          have heq := alk_tsz ha
          have cn3 : s3 0 58 = ((c0 + 0 : Nat) : Int) := by rw [o3 (by decide), q7 _ _ (FND_no (Or.inr (by decide))), f1 _ _ (FND_no (Or.inr (by decide))), hc0]; rfl
          have lo3 : s3 0 57 = ((lo.length + 0 : Nat) : Int) := by rw [o3 (by decide), hlo]; rfl
          have SG3 : SGs s3 n sg := SGs_put (Nat.le_refl _) (A3 n) (fun c j hc _ => o3 (by omega)) hSG
          have hz1 : Z = Ze d 35 154 [aR 0, aI k, aI b, aI 1, aI to, aI ty, aI 0, aI fr, aI 1, aI ((0 : Nat) : Int), aU, aU, aU] [] s3 := by
            have z0 : ((0 : Nat) : Int) = 0 := rfl
            rw [hZ]
            simp (disch := first | exact obC_0 | omega | (simp only [aN1_12, aN1_28, aN1_29, aN1_5]; omega) | (simp only [List.length_cons, List.length_nil]; omega)) only [en35, x35_0, x35_1, x35_4, x35_5, x35_6, x35_7, x35_8, x35_9, x35_12, x35_13, x35_14, x35_17, x35_18, x35_19, x35_22, x35_23, x35_24, x35_25, x35_28, x35_30, x35_31, x35_34, x35_36, x35_37, x35_40, x35_42, x35_44, x35_47, x35_48, x35_49, x35_52, x35_54, x35_56, x35_59, x35_60, x35_62, x35_65, x35_68, x35_69, x35_70, x35_71, x35_72, x35_74, x35_75, x35_78, x35_79, x35_79i, x35_80, x35_83, x35_84, x35_85, x35_88, x35_89, x35_90, x35_91, x35_94, x35_95, x35_96, x35_99, x35_100, x35_101, x35_104, x35_107, x35_108, x35_111, x35_112, x35_113, x35_114, x35_117, x35_118, x35_121, x35_124, x35_125, x35_126, x35_127, x35_130, x35_132, x35_133, x35_135, x35_136, x35_139, x35_142, x35_144, x35_146, x35_149, x35_150, x35_151, x35_152, x35_156, x35_157, x35_160, x35_162, x35_163, x35_166, x35_167, x35_169, x35_171, x35_172, x35_175, x35_176, x35_179, x35_180, x35_183, x35_184, x35_186, x35_188, x35_191, x35_193, x35_195, x35_196, x35_199, x35_201, x35_203, x35_204, x35_206, x35_208, x35_211, x35_213, x35_215, x35_216, x35_219, x35_221, x35_223, x35_224, x35_226, x35_227, x35_229, x35_232, x35_235, x35_236, x35_237, x35_238, x35_239, x35_241, x35_242, x35_244, x35_245, x35_248, x35_249, x35_249i, x35_250, x35_253, x35_254, x35_255, x35_258, x35_261, x35_264, x35_265, fcn_0_19, fcn_0_36, fcn_0_37, fcn_0_9, if_true, if_false, eq_self, Int.reduceEq, Int.reduceLT, Int.reduceLE, Int.reduceAdd, Int.reduceSub, Int.reduceMul, Int.reduceToNat, Nat.reduceAdd, Nat.reduceMul, Nat.reduceEqDiff, Int.toNat_natCast, wrap_id, g1, q1, hG, q2, p1, zcI_r, z0]
          obtain ⟨i1, i2⟩ := cx_loop (d := d) (N := n) (L := lo.length) (to := to) (fr := fr) (cn0 := c0) (st := k) (e := b) (by omega) hM hC (by omega) hdp hto (by omega) hsg24 (by omega) (aI 1) (aI 0) (aI 1) (tsz t) 0 s3 aU aU aU (Nat.zero_add _) (RT_WO p2 T1) SG3 lo3 cn3 hc1
          by_cases hall : ∀ p, p ∈ prs t to fr → skA sg p.1
          · rw [if_pos hall]
            obtain ⟨s4, m1, m2, m3, m4, m5⟩ := i1 (prs_all.mp hall)
            rw [Nat.add_zero] at m5
            have kk : ∀ {c j : Nat}, 1 ≤ c ∧ c ≤ 40 → s4 c j = s3 c j := fun h => m5 _ _ (by unfold cxF; omega)
            have A4 : ∀ N, AR s3 s4 0 N := fun N c j hc _ _ => kk (by omega)
            refine ⟨s4, hz1.trans m1, ⟨?_, hOK, ?_, hsg24, ?_, ?_, ?_⟩, ?_, ?_, ?_⟩
            · exact EN_put (fun c j z => by rw [kk (by omega), o3 (by omega)]) hEN2
            · rw [m5 _ _ (by unfold cxF; omega), o3 (by decide), hsg]
            · exact SGs_put hnn (A4 n) (fun c j hc _ => kk (by omega)) SG3
            · rw [m2, List.length_append, List.length_map, prs_len]
            · refine LOs_app (LOs_put hnn (A4 n) (fun c j hc hj => m5 _ _ (by unfold cxF; omega)) (LOs_put (Nat.le_refl _) (A3 n) (fun c j hc _ => o3 (by omega)) hLO)) (fun i x hx => ?_)
              rw [List.getElem?_map] at hx
              cases hp : (prs t to fr)[i]? with
              | none => rw [hp] at hx; exact (nomatch hx)
              | some p =>
                rw [hp] at hx
                cases hx
                obtain ⟨hi, rfl⟩ := prs_get hp
                obtain ⟨n1, n2, n3⟩ := m4 i (Nat.zero_le _) hi
                refine ⟨n1, fun _ => ⟨?_, ?_, Or.inl ⟨_, rfl, ?_, ?_⟩⟩, fun z => absurd (show (0 : Nat) = 1 from z) (by decide)⟩
                · rw [n2]; split <;> rfl
                · split <;> (dsimp only; omega)
                · split <;> (dsimp only; omega)
                · rw [n3]; split <;> rfl
            · rw [m3, filter_map0, prs_len, hc0]; rfl
            · obtain ⟨x1, x2⟩ := hex
              subst x1
              have k5 : ∀ {c j : Nat}, 12 ≤ c ∧ c ≤ 18 → s4 c j = s1 c j := fun h => by rw [kk (by omega), o3 (by omega), FND_k q7 (by omega)]
              exact ⟨by rw [k5 (by decide), hL1.1], by rw [k5 (by decide), hL1.2], by rw [k5 (by decide), g1], by rw [k5 (by decide), gpa], x2.symm⟩
            · refine F3.tr (m5.mono (fun c j z => ?_))
              rcases z with ⟨z1, z2 | z2⟩ | z
              · exact Or.inl ⟨z1, by omega⟩
              · exact Or.inl ⟨z1, by omega⟩
              · exact Or.inr (Or.inr (Or.inr (Or.inl ⟨z.1, z.2.1, by omega⟩)))
          · rw [if_neg hall]
            obtain ⟨s4, m1, m2⟩ := i2 (fun z => hall (prs_all.mpr z))
            refine CS_none (hz1.trans m1) (F3.tr (m2.mono (fun c j z => ?_)))
            rcases z with ⟨z1, z2 | z2⟩ | z
            · exact Or.inl ⟨z1, by omega⟩
            · exact Or.inl ⟨z1, by omega⟩
            · exact Or.inr (Or.inr (Or.inr (Or.inl ⟨z.1, z.2.1, by omega⟩)))
        · rw [if_neg ha] at p1 ⊢
          refine CS_none (s' := s3) ?_ F3
          rw [hZ]
          simp (disch := first | exact obC_0 | omega | (simp only [aN1_12, aN1_28, aN1_29, aN1_5]; omega) | (simp only [List.length_cons, List.length_nil]; omega)) only [en35, x35_0, x35_1, x35_4, x35_5, x35_6, x35_7, x35_8, x35_9, x35_12, x35_13, x35_14, x35_17, x35_18, x35_19, x35_22, x35_23, x35_24, x35_25, x35_28, x35_30, x35_31, x35_34, x35_36, x35_37, x35_40, x35_42, x35_44, x35_47, x35_48, x35_49, x35_52, x35_54, x35_56, x35_59, x35_60, x35_62, x35_65, x35_68, x35_69, x35_70, x35_71, x35_72, x35_74, x35_75, x35_78, x35_79, x35_79i, x35_80, x35_83, x35_84, x35_85, x35_88, x35_89, x35_90, x35_91, x35_94, x35_95, x35_96, x35_99, x35_100, x35_101, x35_104, x35_107, x35_108, x35_111, x35_112, x35_113, x35_114, x35_117, x35_118, x35_121, x35_124, x35_125, x35_126, x35_127, x35_130, x35_132, x35_133, x35_135, x35_136, x35_139, x35_142, x35_144, x35_146, x35_149, x35_150, x35_151, x35_152, x35_156, x35_157, x35_160, x35_162, x35_163, x35_166, x35_167, x35_169, x35_171, x35_172, x35_175, x35_176, x35_179, x35_180, x35_183, x35_184, x35_186, x35_188, x35_191, x35_193, x35_195, x35_196, x35_199, x35_201, x35_203, x35_204, x35_206, x35_208, x35_211, x35_213, x35_215, x35_216, x35_219, x35_221, x35_223, x35_224, x35_226, x35_227, x35_229, x35_232, x35_235, x35_236, x35_237, x35_238, x35_239, x35_241, x35_242, x35_244, x35_245, x35_248, x35_249, x35_249i, x35_250, x35_253, x35_254, x35_255, x35_258, x35_261, x35_264, x35_265, fcn_0_19, fcn_0_36, fcn_0_37, fcn_0_9, if_true, if_false, eq_self, Int.reduceEq, Int.reduceLT, Int.reduceLE, Int.reduceAdd, Int.reduceSub, Int.reduceMul, Int.reduceToNat, Nat.reduceAdd, Nat.reduceMul, Nat.reduceEqDiff, Int.toNat_natCast, wrap_id, g1, q1, hG, q2, p1, zcI_r]
  · have hcB : cnB env sg to t e = none := by
      unfold cnB
      split
      · exact absurd rfl (g2 _ _)
      · rfl
    rw [hcB]
    refine CS_none (s' := s1) ?_ (f1.mono (fun _ _ => FND_CF))
    rw [hZ]
    simp (disch := first | exact obC_0 | omega | (simp only [aN1_12, aN1_28, aN1_29, aN1_5]; omega) | (simp only [List.length_cons, List.length_nil]; omega)) only [en35, x35_0, x35_1, x35_4, x35_5, x35_6, x35_7, x35_8, x35_9, x35_12, x35_13, x35_14, x35_17, x35_18, x35_19, x35_22, x35_23, x35_24, x35_25, x35_28, x35_30, x35_31, x35_34, x35_36, x35_37, x35_40, x35_42, x35_44, x35_47, x35_48, x35_49, x35_52, x35_54, x35_56, x35_59, x35_60, x35_62, x35_65, x35_68, x35_69, x35_70, x35_71, x35_72, x35_74, x35_75, x35_78, x35_79, x35_79i, x35_80, x35_83, x35_84, x35_85, x35_88, x35_89, x35_90, x35_91, x35_94, x35_95, x35_96, x35_99, x35_100, x35_101, x35_104, x35_107, x35_108, x35_111, x35_112, x35_113, x35_114, x35_117, x35_118, x35_121, x35_124, x35_125, x35_126, x35_127, x35_130, x35_132, x35_133, x35_135, x35_136, x35_139, x35_142, x35_144, x35_146, x35_149, x35_150, x35_151, x35_152, x35_156, x35_157, x35_160, x35_162, x35_163, x35_166, x35_167, x35_169, x35_171, x35_172, x35_175, x35_176, x35_179, x35_180, x35_183, x35_184, x35_186, x35_188, x35_191, x35_193, x35_195, x35_196, x35_199, x35_201, x35_203, x35_204, x35_206, x35_208, x35_211, x35_213, x35_215, x35_216, x35_219, x35_221, x35_223, x35_224, x35_226, x35_227, x35_229, x35_232, x35_235, x35_236, x35_237, x35_238, x35_239, x35_241, x35_242, x35_244, x35_245, x35_248, x35_249, x35_249i, x35_250, x35_253, x35_254, x35_255, x35_258, x35_261, x35_264, x35_265, fcn_0_19, fcn_0_36, fcn_0_37, fcn_0_9, if_true, if_false, eq_self, Int.reduceEq, Int.reduceLT, Int.reduceLE, Int.reduceAdd, Int.reduceSub, Int.reduceMul, Int.reduceToNat, Nat.reduceAdd, Nat.reduceMul, Nat.reduceEqDiff, Int.toNat_natCast, wrap_id, if_neg g1, zcI_r]
theorem t_connects {d k n n' M C : Nat} {i : It} {env : EnvT} {sg : List Sg} {lo : List Lo} {s : Mem} (hd : 3 ≤ d) (hM : M ≤ 200) (hC : C ≤ 100) (hk : k < 120) (hnz : n' = n + nsz i) (hn2 : n' ≤ 200) (hI : RI s k n n' M C i) (h0 : i.1 = 0) (hbl : ebd i.2.2.2.2.1) (hbd : ebd i.2.2.2.2.2) (hCK : CK s n M C env sg lo) (hl2 : lo.length + 24 ≤ 1100) (hcn : ∃ c : Nat, s 0 58 = c ∧ c ≤ 1100) :
    CS n n' M C (cv1 env i) sg lo s (Zc d 35 [aR 0, aI k] s) (ck1 env sg i) := by
  have hn : n ≤ n' := by omega
  obtain ⟨d, rfl⟩ : ∃ e, d = e + 1 := ⟨d - 1, by omega⟩
  obtain ⟨r1, r2, r3⟩ := hI
  obtain ⟨l, hl⟩ : ∃ l, i.2.2.2.2.1 = l := ⟨_, rfl⟩
  obtain ⟨e, he⟩ : ∃ e, i.2.2.2.2.2 = e := ⟨_, rfl⟩
  have r3 : ∃ (a b x : Nat) (r : Jvm.Term), s 28 k = a ∧ s 29 k = b ∧ l = eRef x r ∧ RE s l a ∧ n ≤ a ∧ a + 1 ≤ b ∧ RE s e b ∧ b + esz e ≤ n' := by
    rw [← hl, ← he]
    rcases r3 with ⟨q, h⟩ | ⟨q, -⟩ | q | q | ⟨q, -⟩ | ⟨q, -⟩
    · exact h
    all_goals omega
  obtain ⟨a, b, x, r, g1, g2, rfl, g4, g5, g6, g7, g8⟩ := r3
  have hpos := esz_pos e
  obtain ⟨c1, c2, c3, c4, c5, c6⟩ := g4
  unfold ck1
  rw [if_neg (show ¬ i.1 = 4 by omega), if_neg (show ¬ i.1 = 5 by omega), if_pos h0, hl, he]
  rw [hl] at hbl
  rw [he] at hbd
  have hbr : pbd r := hbl
  have hL := t_resolve (d := d) (by omega) s (n := a) (by omega) hM hC hCK.1 c2 c3 c4 hbr
  unfold nsz at hnz
  rw [if_pos h0, he] at hnz
  have hex : b = n + 1 ∧ n' = b + esz e := by omega
  have hna : a = n := by omega
  unfold cv1
  rw [if_neg (by omega), if_pos h0, hl, he]
  have hcve : cvR env (eRef x r) e = match lk env x r with
    | some (_, ty, _) => if isGr ty = true then rE env e else none
    | none => none := rfl
  rw [hcve]
  have hcne : cn env sg (eRef x r) e = match lk env x r with
    | some (to, ty, _) => if isGr ty = true then cnG env sg to e else cnB env sg to ty e
    | none => none := rfl
  rw [hcne]
  cases hq : lk env x r with
  | none =>
    rw [hq] at hL
    obtain ⟨s1, q1, q2⟩ := hL
    refine CS_none (s' := s1) ?_ (q2.mono (fun _ _ => FND_CF))
    simp (disch := first | exact obC_0 | omega | (simp only [aN1_12, aN1_28, aN1_29, aN1_5]; omega) | (simp only [List.length_cons, List.length_nil]; omega)) only [en35, x35_0, x35_1, x35_4, x35_5, x35_6, x35_7, x35_8, x35_9, x35_12, x35_13, x35_14, x35_17, x35_18, x35_19, x35_22, x35_23, x35_24, x35_25, x35_28, x35_30, x35_31, x35_34, x35_36, x35_37, x35_40, x35_42, x35_44, x35_47, x35_48, x35_49, x35_52, x35_54, x35_56, x35_59, x35_60, x35_62, x35_65, x35_68, x35_69, x35_70, x35_71, x35_72, x35_74, x35_75, x35_78, x35_79, x35_79i, x35_80, x35_83, x35_84, x35_85, x35_88, x35_89, x35_90, x35_91, x35_94, x35_95, x35_96, x35_99, x35_100, x35_101, x35_104, x35_107, x35_108, x35_111, x35_112, x35_113, x35_114, x35_117, x35_118, x35_121, x35_124, x35_125, x35_126, x35_127, x35_130, x35_132, x35_133, x35_135, x35_136, x35_139, x35_142, x35_144, x35_146, x35_149, x35_150, x35_151, x35_152, x35_156, x35_157, x35_160, x35_162, x35_163, x35_166, x35_167, x35_169, x35_171, x35_172, x35_175, x35_176, x35_179, x35_180, x35_183, x35_184, x35_186, x35_188, x35_191, x35_193, x35_195, x35_196, x35_199, x35_201, x35_203, x35_204, x35_206, x35_208, x35_211, x35_213, x35_215, x35_216, x35_219, x35_221, x35_223, x35_224, x35_226, x35_227, x35_229, x35_232, x35_235, x35_236, x35_237, x35_238, x35_239, x35_241, x35_242, x35_244, x35_245, x35_248, x35_249, x35_249i, x35_250, x35_253, x35_254, x35_255, x35_258, x35_261, x35_264, x35_265, fcn_0_19, fcn_0_36, fcn_0_37, fcn_0_9, if_true, if_false, eq_self, Int.reduceEq, Int.reduceLT, Int.reduceLE, Int.reduceAdd, Int.reduceSub, Int.reduceMul, Int.reduceToNat, Nat.reduceAdd, Nat.reduceMul, Nat.reduceEqDiff, Int.toNat_natCast, wrap_id, g1, g2, q1, zcI_r]
  | some y =>
    obtain ⟨to, t, f⟩ := y
    rw [hq] at hL
    obtain ⟨s1, q1, q2, q3, q4, q5, q6, q7⟩ := hL
    obtain ⟨w1, w2⟩ := lk_ok hCK.2.1 hq
    have hCK1 := CK_fnd q7 hCK
    have q4' := TY_put (fun c j z => FND_k q7 (by omega)) q4
    have hG := t_isGround (d := d) (by omega) s1 hM q4'
    have R1 : RE s1 e b := RE_put g7 ⟨fun c j hc _ _ => FND_k q7 (by omega), fun j _ _ => FND_k q7 (by decide)⟩
    dsimp only
    obtain ⟨ty, hty⟩ : ∃ ty, s1 0 52 = ty := ⟨_, rfl⟩
    by_cases hg : isGr t = true
    · rw [if_pos hg] at hG ⊢
      rw [if_pos hg]
      have ht : 1 ≤ tsz t := by
        unfold isGr at hg
        split at hg
        · exact Nat.le_refl _
        · exact (nomatch hg)
      refine cn_ground (d := d) (a := a) (ty := ty) (by omega) hM hC hk hn2 (by omega) R1 g8 hbd hCK1 hl2 (by omega) q7 hcn (aI 1) hex ⟨by rw [← hna, FND_k q7 (by decide), c1], by rw [← hna, FND_k q7 (by decide), c6]⟩ ?_
      simp (disch := first | exact obC_0 | omega | (simp only [aN1_12, aN1_28, aN1_29, aN1_5]; omega) | (simp only [List.length_cons, List.length_nil]; omega)) only [en35, x35_0, x35_1, x35_4, x35_5, x35_6, x35_7, x35_8, x35_9, x35_12, x35_13, x35_14, x35_17, x35_18, x35_19, x35_22, x35_23, x35_24, x35_25, x35_28, x35_30, x35_31, x35_34, x35_36, x35_37, x35_40, x35_44, x35_47, x35_48, x35_49, x35_52, x35_54, x35_56, x35_59, x35_60, x35_62, x35_65, x35_68, x35_69, x35_70, x35_71, x35_72, x35_74, x35_75, x35_78, x35_79, x35_79i, x35_80, x35_83, x35_84, x35_85, x35_88, x35_89, x35_90, x35_91, x35_94, x35_95, x35_96, x35_99, x35_100, x35_101, x35_104, x35_107, x35_108, x35_111, x35_112, x35_113, x35_114, x35_117, x35_118, x35_121, x35_124, x35_125, x35_126, x35_127, x35_130, x35_132, x35_133, x35_135, x35_136, x35_139, x35_142, x35_144, x35_146, x35_149, x35_150, x35_151, x35_152, x35_156, x35_157, x35_160, x35_162, x35_163, x35_166, x35_167, x35_169, x35_171, x35_172, x35_175, x35_176, x35_179, x35_180, x35_183, x35_184, x35_186, x35_188, x35_191, x35_193, x35_195, x35_196, x35_199, x35_201, x35_203, x35_204, x35_206, x35_208, x35_211, x35_213, x35_215, x35_216, x35_219, x35_221, x35_223, x35_224, x35_226, x35_227, x35_229, x35_232, x35_235, x35_236, x35_237, x35_238, x35_239, x35_241, x35_242, x35_244, x35_245, x35_248, x35_249, x35_249i, x35_250, x35_253, x35_254, x35_255, x35_258, x35_261, x35_264, x35_265, fcn_0_19, fcn_0_36, fcn_0_37, fcn_0_9, if_true, if_false, eq_self, Int.reduceEq, Int.reduceLT, Int.reduceLE, Int.reduceAdd, Int.reduceSub, Int.reduceMul, Int.reduceToNat, Nat.reduceAdd, Nat.reduceMul, Nat.reduceEqDiff, Int.toNat_natCast, wrap_id, g1, g2, q1, q2, hty, hG, zcI_r]
    · rw [if_neg hg] at hG ⊢
      rw [if_neg hg]
      have T1 : RT s1 0 M 0 C true t ty := by
        rw [← hty]
        exact q4'.resolve_left (fun z => hg (by rw [z.2]; rfl))
      refine cn_bundle (d := d) (by omega) hM hC hk hn2 hn (by omega) R1 g8 hbd hCK1 hl2 T1 w1 w2 q7 hcn (aI 1) hex ⟨by rw [← hna, FND_k q7 (by decide), c1], by rw [← hna, FND_k q7 (by decide), c6]⟩ ?_
      simp (disch := first | exact obC_0 | omega | (simp only [aN1_12, aN1_28, aN1_29, aN1_5]; omega) | (simp only [List.length_cons, List.length_nil]; omega)) only [en35, x35_0, x35_1, x35_4, x35_5, x35_6, x35_7, x35_8, x35_9, x35_12, x35_13, x35_14, x35_17, x35_18, x35_19, x35_22, x35_23, x35_24, x35_25, x35_28, x35_30, x35_31, x35_34, x35_36, x35_37, x35_40, x35_44, x35_47, x35_48, x35_49, x35_52, x35_54, x35_56, x35_59, x35_60, x35_62, x35_65, x35_68, x35_69, x35_70, x35_71, x35_72, x35_74, x35_75, x35_78, x35_79, x35_79i, x35_80, x35_83, x35_84, x35_85, x35_88, x35_89, x35_90, x35_91, x35_94, x35_95, x35_96, x35_99, x35_100, x35_101, x35_104, x35_107, x35_108, x35_111, x35_112, x35_113, x35_114, x35_117, x35_118, x35_121, x35_124, x35_125, x35_126, x35_127, x35_130, x35_132, x35_133, x35_135, x35_136, x35_139, x35_142, x35_144, x35_146, x35_149, x35_150, x35_151, x35_152, x35_156, x35_157, x35_160, x35_162, x35_163, x35_166, x35_167, x35_169, x35_171, x35_172, x35_175, x35_176, x35_179, x35_180, x35_183, x35_184, x35_186, x35_188, x35_191, x35_193, x35_195, x35_196, x35_199, x35_201, x35_203, x35_204, x35_206, x35_208, x35_211, x35_213, x35_215, x35_216, x35_219, x35_221, x35_223, x35_224, x35_226, x35_227, x35_229, x35_232, x35_235, x35_236, x35_237, x35_238, x35_239, x35_241, x35_242, x35_244, x35_245, x35_248, x35_249, x35_249i, x35_250, x35_253, x35_254, x35_255, x35_258, x35_261, x35_264, x35_265, fcn_0_19, fcn_0_36, fcn_0_37, fcn_0_9, if_true, if_false, eq_self, Int.reduceEq, Int.reduceLT, Int.reduceLE, Int.reduceAdd, Int.reduceSub, Int.reduceMul, Int.reduceToNat, Nat.reduceAdd, Nat.reduceMul, Nat.reduceEqDiff, Int.toNat_natCast, wrap_id, g1, g2, q1, q2, hty, hG, zcI_r]
