theorem EN_put {s s' : Mem} {M C : Nat} {env : EnvT} (g : ∀ k j, (2 ≤ k ∧ k ≤ 9 ∨ k = 32 ∨ k = 34 ∨ k = 33) → s' k j = s k j) (h : EN s M C env) : EN s' M C env := by
  intro d hd
  have := h d hd
  revert this
  split
  · intro z
    rw [g _ _ (by omega)]
    exact z
  · rintro ⟨z1, z2, z3, z4⟩
    exact ⟨by rw [g _ _ (by omega)]; exact z1, by rw [g _ _ (by omega)]; exact z2, by rw [g 33 _ (by omega)]; exact TY_put (fun k j h => g k j (by omega)) z3, z4⟩
theorem t_resolve {d n M C nm : Nat} {env : EnvT} {r : Jvm.Term} (hd : 1 ≤ d) (s : Mem) (hn : n < 220) (hM : M ≤ 200) (hC : C ≤ 100) (hE : EN s M C env) (hnum : s 13 n = nm) (hnm : nm < 26) (hP : RPath s n r 0) (hbd : pbd r) :
    match lk env nm r with
    | some (g, t, f) => ∃ s', Zc d 27 [aR 0, aI n] s = rI 1 s' ∧ s' 0 51 = g ∧ s' 0 53 = f ∧ TY s M C t (s' 0 52) ∧ g + tsz t ≤ 24 ∧ f ≤ 6 ∧ Fr FND s s'
    | none => ∃ s', Zc d 27 [aR 0, aI n] s = rI 0 s' ∧ Fr FND s s' := by
  obtain ⟨d, rfl⟩ : ∃ e, d = e + 1 := ⟨d - 1, by omega⟩
  have hD := hE nm hnm
  unfold lk
  cases he : env nm with
  | none =>
    rw [he] at hD
    refine ⟨s, ?_, Fr.rf s⟩
    have hD : s 32 nm = -1 := hD
    simp (disch := first | exact obC_0 | omega | (simp only [aN1_13, aN1_2, aN1_20, aN1_21, aN1_3, aN1_32, aN1_33, aN1_34, aN1_4, aN1_5, aN1_6, aN1_7, aN1_8, aN1_9]; omega) | (simp only [List.length_cons, List.length_nil]; omega)) only [en27, x27_0, x27_1, x27_4, x27_5, x27_6, x27_7, x27_8, x27_11, x27_12, x27_13, x27_16, x27_17, x27_18, x27_19, x27_20, x27_23, x27_24, x27_25, x27_28, x27_29, x27_30, x27_33, x27_34, x27_35, x27_38, x27_39, x27_40, x27_43, x27_44, x27_46, x27_47, x27_50, x27_51, x27_52, x27_55, x27_56, x27_59, x27_61, x27_62, x27_63, x27_64, x27_65, x27_66, x27_68, x27_69, x27_72, x27_75, x27_76, x27_79, x27_80, x27_83, x27_84, x27_86, x27_88, x27_91, x27_92, x27_95, x27_96, x27_99, x27_100, x27_101, x27_103, x27_105, x27_108, x27_110, x27_112, x27_113, x27_114, x27_117, x27_118, x27_121, x27_122, x27_125, x27_126, x27_127, x27_128, x27_129, x27_132, x27_133, x27_136, x27_137, x27_140, x27_141, x27_141i, x27_142, x27_145, x27_147, x27_149, x27_150, x27_151, x27_154, x27_155, x27_158, x27_159, x27_160, x27_161, x27_164, x27_167, x27_168, x27_171, x27_172, x27_175, x27_176, x27_180, x27_183, x27_184, x27_187, x27_189, x27_190, x27_192, x27_195, x27_196, x27_196i, x27_197, x27_200, x27_201, x27_204, x27_205, x27_208, x27_210, x27_211, x27_212, x27_213, x27_216, x27_217, x27_220, x27_222, x27_223, x27_225, x27_228, x27_230, x27_233, x27_234, x27_235, x27_236, x27_236i, x27_237, x27_240, x27_241, x27_244, x27_246, x27_247, x27_248, x27_251, x27_252, x27_253, x27_256, x27_258, x27_259, x27_262, x27_265, x27_268, x27_269, fcn_0_10, fcn_0_11, fcn_0_12, fcn_0_13, fcn_0_20, fcn_0_27, fcn_0_28, fcn_0_41, fcn_0_42, fcn_0_43, fcn_0_6, fcn_0_7, fcn_0_8, fcn_0_9, if_true, if_false, eq_self, Int.reduceEq, Int.reduceLT, Int.reduceLE, Int.reduceAdd, Int.reduceSub, Int.reduceMul, Int.reduceToNat, Nat.reduceAdd, Nat.reduceMul, Nat.reduceEqDiff, Int.toNat_natCast, wrap_id, hnum, hD]
  | some tb =>
    obtain ⟨t, b⟩ := tb
    rw [he] at hD
    obtain ⟨h1, h2, h3, h4⟩ := hD
    generalize hs1 : mu (mu (mu s 0 51 (b : Int)) 0 52 (s 33 nm)) 0 53 0 = s1
    have f1 : Fr FND s s1 := by rw [← hs1]; exact (((Fr.rf s).mu (by unfold FND; omega)).mu (by unfold FND; omega)).mu (by unfold FND; omega)
    have hz : Zc (d + 1) 27 [aR 0, aI n] s = Ze d 27 45 [aR 0, aI n, aI nm, aI ((0 : Nat) : Int), aU, aU] [] s1 := by
      have z0 : ((0 : Nat) : Int) = 0 := rfl
      simp (disch := first | exact obC_0 | omega | (simp only [aN1_13, aN1_2, aN1_20, aN1_21, aN1_3, aN1_32, aN1_33, aN1_34, aN1_4, aN1_5, aN1_6, aN1_7, aN1_8, aN1_9]; omega) | (simp only [List.length_cons, List.length_nil]; omega)) only [en27, x27_0, x27_1, x27_4, x27_5, x27_6, x27_7, x27_8, x27_11, x27_12, x27_13, x27_16, x27_17, x27_18, x27_19, x27_20, x27_23, x27_24, x27_25, x27_28, x27_29, x27_30, x27_33, x27_34, x27_35, x27_38, x27_39, x27_40, x27_43, x27_44, x27_46, x27_47, x27_50, x27_51, x27_52, x27_55, x27_56, x27_59, x27_61, x27_62, x27_63, x27_64, x27_65, x27_66, x27_68, x27_69, x27_72, x27_75, x27_76, x27_79, x27_80, x27_83, x27_84, x27_86, x27_88, x27_91, x27_92, x27_95, x27_96, x27_99, x27_100, x27_101, x27_103, x27_105, x27_108, x27_110, x27_112, x27_113, x27_114, x27_117, x27_118, x27_121, x27_122, x27_125, x27_126, x27_127, x27_128, x27_129, x27_132, x27_133, x27_136, x27_137, x27_140, x27_141, x27_141i, x27_142, x27_145, x27_147, x27_149, x27_150, x27_151, x27_154, x27_155, x27_158, x27_159, x27_160, x27_161, x27_164, x27_167, x27_168, x27_171, x27_172, x27_175, x27_176, x27_180, x27_183, x27_184, x27_187, x27_189, x27_190, x27_192, x27_195, x27_196, x27_196i, x27_197, x27_200, x27_201, x27_204, x27_205, x27_208, x27_210, x27_211, x27_212, x27_213, x27_216, x27_217, x27_220, x27_222, x27_223, x27_225, x27_228, x27_230, x27_233, x27_234, x27_235, x27_236, x27_236i, x27_237, x27_240, x27_241, x27_244, x27_246, x27_247, x27_248, x27_251, x27_252, x27_253, x27_256, x27_258, x27_259, x27_262, x27_265, x27_268, x27_269, fcn_0_10, fcn_0_11, fcn_0_12, fcn_0_13, fcn_0_20, fcn_0_27, fcn_0_28, fcn_0_41, fcn_0_42, fcn_0_43, fcn_0_6, fcn_0_7, fcn_0_8, fcn_0_9, if_true, if_false, eq_self, Int.reduceEq, Int.reduceLT, Int.reduceLE, Int.reduceAdd, Int.reduceSub, Int.reduceMul, Int.reduceToNat, Nat.reduceAdd, Nat.reduceMul, Nat.reduceEqDiff, Int.toNat_natCast, wrap_id, hnum, h2, mu_c, hs1, z0, if_neg (show ¬ s 32 nm < 0 by omega)]
    have hp := rs_path (d := d) (n := n) hn hM hC nm r 0 b 0 t s1 aU aU (RPath_pu (fun k j z => FND_k f1 (by omega)) hP) (by rw [← hs1, mu_i (by decide), mu_i (by decide), mu_s]) (by rw [← hs1, mu_s]; rfl) (by
      rw [show s1 0 52 = s 33 nm by rw [← hs1, mu_i (by decide), mu_s]]
      exact TY_put (fun k j z => FND_k f1 (by omega)) h3) h4 (Nat.le_refl _) hbd
    dsimp only
    cases hq : rsv r b t 0 with
    | none =>
      rw [hq] at hp
      obtain ⟨s2, q1, q2⟩ := hp
      exact ⟨s2, hz.trans q1, f1.tr q2⟩
    | some x =>
      obtain ⟨g, t', f⟩ := x
      rw [hq] at hp
      obtain ⟨s2, q1, q2, q3, q4, q5, q6, q7, q8⟩ := hp
      exact ⟨s2, hz.trans q1, q2, q3, TY_put (fun k j z => (FND_k f1 (by omega)).symm) q4, by omega, q7, f1.tr q8⟩
theorem t_isGround {d M C : Nat} {t : Jvm.Term} (hd : 1 ≤ d) (s : Mem) (hM : M ≤ 200) (hT : TY s M C t (s 0 52)) : Zc d 28 [aR 0] s = rI (if isGr t = true then 1 else 0) s := by
  obtain ⟨d, rfl⟩ : ∃ e, d = e + 1 := ⟨d - 1, by omega⟩
  rcases hT with ⟨h1, rfl⟩ | h
  · rw [if_pos (show isGr (tU 0) = true from rfl)]
    simp (disch := first | exact obC_0 | omega | (simp only [aN1_2]; omega) | (simp only [List.length_cons, List.length_nil]; omega)) only [en28, x28_0, x28_1, x28_4, x28_7, x28_8, x28_11, x28_12, x28_15, x28_16, x28_19, x28_20, x28_23, x28_24, fcn_0_6, if_true, if_false, eq_self, Int.reduceEq, Int.reduceLT, Int.reduceLE, Int.reduceAdd, Int.reduceSub, Int.reduceMul, Int.reduceToNat, Nat.reduceAdd, Nat.reduceMul, Nat.reduceEqDiff, Int.toNat_natCast, wrap_id, h1]
  · obtain ⟨r1, r2, r3, r4⟩ := RT_size h
    obtain ⟨ty, hty⟩ : ∃ ty : Nat, s 0 52 = ty := ⟨(s 0 52).toNat, by omega⟩
    obtain ⟨w, rfl, g1, -⟩ | ⟨fs, rfl, g1, -⟩ | ⟨w, w', rfl, g1, -⟩ := RT_inv h
    all_goals (rw [hty, Int.toNat_natCast] at g1)
    · rw [if_pos (show isGr (.arg w) = true from rfl)]
      simp (disch := first | exact obC_0 | omega | (simp only [aN1_2]; omega) | (simp only [List.length_cons, List.length_nil]; omega)) only [en28, x28_0, x28_1, x28_4, x28_7, x28_8, x28_11, x28_12, x28_15, x28_16, x28_19, x28_20, x28_23, x28_24, fcn_0_6, if_true, if_false, eq_self, Int.reduceEq, Int.reduceLT, Int.reduceLE, Int.reduceAdd, Int.reduceSub, Int.reduceMul, Int.reduceToNat, Nat.reduceAdd, Nat.reduceMul, Nat.reduceEqDiff, Int.toNat_natCast, wrap_id, hty, g1, if_neg (show ¬ (ty : Int) < 0 by omega)]
    · rw [if_neg (show ¬ isGr (.sum fs) = true from fun z => nomatch z)]
      simp (disch := first | exact obC_0 | omega | (simp only [aN1_2]; omega) | (simp only [List.length_cons, List.length_nil]; omega)) only [en28, x28_0, x28_1, x28_4, x28_7, x28_8, x28_11, x28_12, x28_15, x28_16, x28_19, x28_20, x28_23, x28_24, fcn_0_6, if_true, if_false, eq_self, Int.reduceEq, Int.reduceLT, Int.reduceLE, Int.reduceAdd, Int.reduceSub, Int.reduceMul, Int.reduceToNat, Nat.reduceAdd, Nat.reduceMul, Nat.reduceEqDiff, Int.toNat_natCast, wrap_id, hty, g1, if_neg (show ¬ (ty : Int) < 0 by omega)]
    · rw [if_neg (show ¬ isGr (.mul (.arg w) w') = true from fun z => nomatch z)]
      simp (disch := first | exact obC_0 | omega | (simp only [aN1_2]; omega) | (simp only [List.length_cons, List.length_nil]; omega)) only [en28, x28_0, x28_1, x28_4, x28_7, x28_8, x28_11, x28_12, x28_15, x28_16, x28_19, x28_20, x28_23, x28_24, fcn_0_6, if_true, if_false, eq_self, Int.reduceEq, Int.reduceLT, Int.reduceLE, Int.reduceAdd, Int.reduceSub, Int.reduceMul, Int.reduceToNat, Nat.reduceAdd, Nat.reduceMul, Nat.reduceEqDiff, Int.toNat_natCast, wrap_id, hty, g1, if_neg (show ¬ (ty : Int) < 0 by omega)]
/-! THE DOCUMENT: an expression whose names are looked up; a ground signal is .index -/
def rE (env : EnvT) : Jvm.Term → Option Jvm.Term
  | .old a => match rE env a with
    | some a' => some (.old a')
    | none => none
  | .mul x a => match rE env a with
    | some a' => some (.mul x a')
    | none => none
  | .div c (.rem a b) => match rE env a with
    | some a' => match rE env b with
      | some b' => some (.div c (.rem a' b'))
      | none => none
    | none => none
  | .sub c (.rem a b) => match rE env c with
    | some c' => match rE env a with
      | some a' => match rE env b with
        | some b' => some (.sub c' (.rem a' b'))
        | none => none
      | none => none
    | none => none
  | .add (.arg nm) r => match lk env nm r with
    | some (g, t, _) => if isGr t = true then some (.index g) else none
    | none => none
  | .arg v => some (.arg v)
  | _ => none
/-- what can be read, inside an expression -/
def ebd : Jvm.Term → Prop
  | .old a => ebd a
  | .mul _ a => ebd a
  | .div _ (.rem a b) => ebd a ∧ ebd b
  | .sub c (.rem a b) => ebd c ∧ ebd a ∧ ebd b
  | .add _ r => pbd r
  | _ => True
/-- the expression, looked up, as the reference's nodes have it from n on -/
def RR (s : Mem) : Jvm.Term → Nat → Prop
  | .old a, n => s 12 n = 33 ∧ s 15 n = ((n + 1 : Nat) : Int) ∧ s 16 n = -1 ∧ s 18 n = ((n + 1 + esz a : Nat) : Int) ∧ RR s a (n + 1)
  | .mul (.add (.arg h) (.arg l)) a, n => s 12 n = 84 ∧ s 14 n = h ∧ s 13 n = l ∧ (h ≤ 15 ∧ l ≤ h) ∧ s 15 n = ((n + 1 : Nat) : Int) ∧ s 16 n = -1 ∧ s 18 n = ((n + 1 + esz a : Nat) : Int) ∧ RR s a (n + 1)
  | .div (.arg c) (.rem a b), n => s 12 n = c ∧ two c ∧ s 15 n = ((n + 1 : Nat) : Int) ∧ s 16 n = ((n + 1 + esz a : Nat) : Int) ∧ s 18 n = ((n + 1 + esz a + esz b : Nat) : Int) ∧ RR s a (n + 1) ∧ RR s b (n + 1 + esz a)
  | .sub c (.rem a b), n => s 12 n = 77 ∧ s 15 n = ((n + 1 : Nat) : Int) ∧ s 16 n = ((n + 1 + esz c : Nat) : Int) ∧ s 17 n = ((n + 1 + esz c + esz a : Nat) : Int) ∧ s 18 n = ((n + 1 + esz c + esz a + esz b : Nat) : Int) ∧ RR s c (n + 1) ∧ RR s a (n + 1 + esz c) ∧ RR s b (n + 1 + esz c + esz a)
  | .index g, n => s 12 n = 0 ∧ s 15 n = g ∧ g < 24 ∧ s 18 n = ((n + 1 : Nat) : Int)
  | .arg v, n => s 12 n = 1 ∧ s 13 n = v ∧ v ≤ 65535 ∧ s 18 n = ((n + 1 : Nat) : Int)
  | _, _ => False
/-- the nodes from a up to b are the same to one who has RR -/
def AR (s s' : Mem) (a b : Nat) : Prop := ∀ k j, (12 ≤ k ∧ k ≤ 18) → a ≤ j → j < b → s' k j = s k j
theorem AR.sub {s s' : Mem} {a b c d : Nat} (h : AR s s' a b) (h1 : a ≤ c) (h2 : d ≤ b) : AR s s' c d := fun k j hk h3 h4 => h k j hk (by omega) (by omega)
theorem RR_put {s s' : Mem} {e : Jvm.Term} {n : Nat} : RR s e n → AR s s' n (n + esz e) → RR s' e n := by
  fun_induction RR s e n with
  | case1 a n ih =>
    intro h g
    simp only [esz] at g
    obtain ⟨h1, h2, h3, h4, h5⟩ := h
    exact ⟨by rw [g _ _ (by omega) (by omega) (by omega), h1], by rw [g _ _ (by omega) (by omega) (by omega), h2], by rw [g _ _ (by omega) (by omega) (by omega), h3], by rw [g _ _ (by omega) (by omega) (by omega), h4], ih h5 (g.sub (by omega) (by omega))⟩
  | case2 h l a n ih =>
    intro z g
    simp only [esz] at g
    obtain ⟨h1, h2, h3, h4, h5, h6, h7, h8⟩ := z
    exact ⟨by rw [g _ _ (by omega) (by omega) (by omega), h1], by rw [g _ _ (by omega) (by omega) (by omega), h2], by rw [g _ _ (by omega) (by omega) (by omega), h3], h4, by rw [g _ _ (by omega) (by omega) (by omega), h5], by rw [g _ _ (by omega) (by omega) (by omega), h6], by rw [g _ _ (by omega) (by omega) (by omega), h7], ih h8 (g.sub (by omega) (by omega))⟩
  | case3 c a b n ih1 ih2 =>
    intro z g
    simp only [esz] at g
    obtain ⟨h1, h2, h3, h4, h5, h6, h7⟩ := z
    exact ⟨by rw [g _ _ (by omega) (by omega) (by omega), h1], h2, by rw [g _ _ (by omega) (by omega) (by omega), h3], by rw [g _ _ (by omega) (by omega) (by omega), h4], by rw [g _ _ (by omega) (by omega) (by omega), h5], ih1 h6 (g.sub (by omega) (by omega)), ih2 h7 (g.sub (by omega) (by omega))⟩
  | case4 c a b n ih1 ih2 ih3 =>
    intro z g
    simp only [esz] at g
    obtain ⟨h1, h2, h3, h4, h5, h6, h7, h8⟩ := z
    exact ⟨by rw [g _ _ (by omega) (by omega) (by omega), h1], by rw [g _ _ (by omega) (by omega) (by omega), h2], by rw [g _ _ (by omega) (by omega) (by omega), h3], by rw [g _ _ (by omega) (by omega) (by omega), h4], by rw [g _ _ (by omega) (by omega) (by omega), h5], ih1 h6 (g.sub (by omega) (by omega)), ih2 h7 (g.sub (by omega) (by omega)), ih3 h8 (g.sub (by omega) (by omega))⟩
  | case5 g n =>
    intro z q
    simp only [esz] at q
    obtain ⟨h1, h2, h3, h4⟩ := z
    exact ⟨by rw [q _ _ (by omega) (by omega) (by omega), h1], by rw [q _ _ (by omega) (by omega) (by omega), h2], h3, by rw [q _ _ (by omega) (by omega) (by omega), h4]⟩
  | case6 v n =>
    intro z q
    simp only [esz] at q
    obtain ⟨h1, h2, h3, h4⟩ := z
    exact ⟨by rw [q _ _ (by omega) (by omega) (by omega), h1], by rw [q _ _ (by omega) (by omega) (by omega), h2], h3, by rw [q _ _ (by omega) (by omega) (by omega), h4]⟩
  | case7 => intro h; exact h.elim
theorem rE_esz {env : EnvT} {e e' : Jvm.Term} (h : rE env e = some e') : esz e' = esz e := by
  fun_induction rE env e generalizing e' with
  | case1 a a' ha ih => cases h; simp only [esz, ih ha]
  | case2 a ha ih => exact (nomatch h)
  | case3 x a a' ha ih => cases h; simp only [esz, ih ha]
  | case4 x a ha ih => exact (nomatch h)
  | case5 c a b a' ha b' hb iha ihb => cases h; simp only [esz, iha ha, ihb hb]
  | case6 => exact (nomatch h)
  | case7 => exact (nomatch h)
  | case8 c a b c' hc a' ha b' hb ihc iha ihb => cases h; simp only [esz, ihc hc, iha ha, ihb hb]
  | case9 => exact (nomatch h)
  | case10 => exact (nomatch h)
  | case11 => exact (nomatch h)
  | case12 nm r g t f hl ht => cases h; rfl
  | case13 => exact (nomatch h)
  | case14 => exact (nomatch h)
  | case15 v => cases h; rfl
  | case16 => exact (nomatch h)
def FST (a b k j : Nat) : Prop := FND k j ∨ (k = 15 ∧ a ≤ j ∧ j < b)
theorem FST_sub {a b c d k j : Nat} (h1 : a ≤ c) (h2 : d ≤ b) (h : FST c d k j) : FST a b k j := h.imp id (fun z => ⟨z.1, by omega, by omega⟩)
theorem FST_k {a b k j : Nat} (h : k ≠ 0 ∧ k ≠ 15) : ¬ FST a b k j := by unfold FST FND; omega
theorem FST_o {a b k j : Nat} (h : k ≠ 0) (hj : j < a ∨ b ≤ j) : ¬ FST a b k j := by unfold FST FND; omega
theorem st_skip {d E root n : Nat} (hE : E ≤ 220) (hr : root < 220) (hn : n < E) (s : Mem) (he : s 18 root = E) (hk : ¬ s 12 n = 0) (l3 : AV) :
    Ze d 29 2 [aR 0, aI root, aI n, l3] [] s = Ze d 29 2 [aR 0, aI root, aI ((n + 1 : Nat) : Int), l3] [] s := by
  rw [show (((n + 1 : Nat) : Int)) = (n : Int) + 1 by omega]
  rw [x29_2]
  simp (disch := first | exact obC_0 | omega | (simp only [aN1_12, aN1_15, aN1_18]; omega) | (simp only [List.length_cons, List.length_nil]; omega)) only [en29, x29_0, x29_1, x29_3, x29_4, x29_7, x29_8, x29_9, x29_12, x29_13, x29_16, x29_17, x29_18, x29_21, x29_24, x29_25, x29_26, x29_29, x29_30, x29_31, x29_34, x29_35, x29_38, x29_41, x29_42, x29_43, x29_44, x29_47, x29_48, x29_49, x29_52, x29_53, x29_56, x29_59, x29_60, fcn_0_19, fcn_0_22, fcn_0_25, if_true, if_false, eq_self, Int.reduceEq, Int.reduceLT, Int.reduceLE, Int.reduceAdd, Int.reduceSub, Int.reduceMul, Int.reduceToNat, Nat.reduceAdd, Nat.reduceMul, Nat.reduceEqDiff, Int.toNat_natCast, wrap_id, he, hk, if_pos (show (n : Int) < E by omega)]
theorem st_ref {d E root n M C nm : Nat} {env : EnvT} {r : Jvm.Term} (hd : 1 ≤ d) (hE : E ≤ 220) (hr : root < 220) (hn : n < E) (s : Mem) (hM : M ≤ 200) (hC : C ≤ 100) (hEN : EN s M C env) (he : s 18 root = E) (hk : s 12 n = 0) (hnum : s 13 n = nm) (hnm : nm < 26) (hP : RPath s n r 0) (hbd : pbd r) (l3 : AV) :
    match rE env (.add (.arg nm) r) with
    | some e' => ∃ (s' : Mem) (g : Nat), e' = .index g ∧ g < 24 ∧ Ze d 29 2 [aR 0, aI root, aI n, l3] [] s = Ze d 29 2 [aR 0, aI root, aI ((n + 1 : Nat) : Int), aI 1] [] s' ∧ s' 15 n = g ∧ Fr (FST n (n + 1)) s s'
    | none => ∃ s', Ze d 29 2 [aR 0, aI root, aI n, l3] [] s = rI 0 s' ∧ Fr (FST n (n + 1)) s s' := by
  have hR := t_resolve (d := d) hd s (n := n) (by omega) hM hC hEN hnum hnm hP hbd
  unfold rE
  cases hl : lk env nm r with
  | none =>
    rw [hl] at hR
    obtain ⟨s1, h1, h2⟩ := hR
    refine ⟨s1, ?_, h2.mono (fun _ _ => Or.inl)⟩
    rw [x29_2]
    simp (disch := first | exact obC_0 | omega | (simp only [aN1_12, aN1_15, aN1_18]; omega) | (simp only [List.length_cons, List.length_nil]; omega)) only [en29, x29_0, x29_1, x29_3, x29_4, x29_7, x29_8, x29_9, x29_12, x29_13, x29_16, x29_17, x29_18, x29_21, x29_24, x29_25, x29_26, x29_29, x29_30, x29_31, x29_34, x29_35, x29_38, x29_41, x29_42, x29_43, x29_44, x29_47, x29_48, x29_49, x29_52, x29_53, x29_56, x29_59, x29_60, fcn_0_19, fcn_0_22, fcn_0_25, if_true, if_false, eq_self, Int.reduceEq, Int.reduceLT, Int.reduceLE, Int.reduceAdd, Int.reduceSub, Int.reduceMul, Int.reduceToNat, Nat.reduceAdd, Nat.reduceMul, Nat.reduceEqDiff, Int.toNat_natCast, wrap_id, he, hk, if_pos (show (n : Int) < E by omega), h1, zcI_r]
  | some x =>
    obtain ⟨g, t, f⟩ := x
    rw [hl] at hR
    obtain ⟨s1, h1, h2, h3, h4, h5, h6, h7⟩ := hR
    have hG := t_isGround (d := d) hd s1 hM (TY_put (fun k j z => FND_k h7 (by omega)) h4)
    dsimp only
    by_cases hg : isGr t = true
    · rw [if_pos hg] at hG ⊢
      have ht : 1 ≤ tsz t := by
        unfold isGr at hg
        split at hg
        · exact Nat.le_refl _
        · exact (nomatch hg)
      refine ⟨mu s1 15 n g, g, rfl, by omega, ?_, mu_s, (h7.mono (fun _ _ => Or.inl)).mu (Or.inr ⟨rfl, Nat.le_refl _, Nat.lt_succ_self _⟩)⟩
      rw [show (((n + 1 : Nat) : Int)) = (n : Int) + 1 by omega]
      rw [x29_2]
      simp (disch := first | exact obC_0 | omega | (simp only [aN1_12, aN1_15, aN1_18]; omega) | (simp only [List.length_cons, List.length_nil]; omega)) only [en29, x29_0, x29_1, x29_3, x29_4, x29_7, x29_8, x29_9, x29_12, x29_13, x29_16, x29_17, x29_18, x29_21, x29_24, x29_25, x29_26, x29_29, x29_30, x29_31, x29_34, x29_35, x29_38, x29_41, x29_42, x29_43, x29_44, x29_47, x29_48, x29_49, x29_52, x29_53, x29_56, x29_59, x29_60, fcn_0_19, fcn_0_22, fcn_0_25, if_true, if_false, eq_self, Int.reduceEq, Int.reduceLT, Int.reduceLE, Int.reduceAdd, Int.reduceSub, Int.reduceMul, Int.reduceToNat, Nat.reduceAdd, Nat.reduceMul, Nat.reduceEqDiff, Int.toNat_natCast, wrap_id, he, hk, if_pos (show (n : Int) < E by omega), h1, hG, zcI_r, h2]
    · rw [if_neg hg] at hG ⊢
      refine ⟨s1, ?_, h7.mono (fun _ _ => Or.inl)⟩
      rw [x29_2]
      simp (disch := first | exact obC_0 | omega | (simp only [aN1_12, aN1_15, aN1_18]; omega) | (simp only [List.length_cons, List.length_nil]; omega)) only [en29, x29_0, x29_1, x29_3, x29_4, x29_7, x29_8, x29_9, x29_12, x29_13, x29_16, x29_17, x29_18, x29_21, x29_24, x29_25, x29_26, x29_29, x29_30, x29_31, x29_34, x29_35, x29_38, x29_41, x29_42, x29_43, x29_44, x29_47, x29_48, x29_49, x29_52, x29_53, x29_56, x29_59, x29_60, fcn_0_19, fcn_0_22, fcn_0_25, if_true, if_false, eq_self, Int.reduceEq, Int.reduceLT, Int.reduceLE, Int.reduceAdd, Int.reduceSub, Int.reduceMul, Int.reduceToNat, Nat.reduceAdd, Nat.reduceMul, Nat.reduceEqDiff, Int.toNat_natCast, wrap_id, he, hk, if_pos (show (n : Int) < E by omega), h1, hG, zcI_r]
/-- what RE says of a leaf -/
theorem RE_leaf {s : Mem} {e : Jvm.Term} {n : Nat} (h : RE s e n) (h1 : ∀ a, e ≠ .old a) (h2 : ∀ x a, e ≠ .mul x a) (h3 : ∀ c a b, e ≠ .div c (.rem a b)) (h4 : ∀ c a b, e ≠ .sub c (.rem a b)) : (∃ nm r, e = .add (.arg nm) r ∧ s 12 n = 0 ∧ s 13 n = (nm : Nat) ∧ nm < 26 ∧ RPath s n r 0 ∧ s 18 n = ((n + 1 : Nat) : Int) ∧ s 15 n = -1) ∨ (∃ v, e = .arg v ∧ s 12 n = 1 ∧ s 13 n = (v : Nat) ∧ v ≤ 65535 ∧ s 18 n = ((n + 1 : Nat) : Int)) := by
  revert h
  fun_cases RE s e n with
  | case1 a n => exact absurd rfl (h1 a)
  | case2 h l a n => exact absurd rfl (h2 _ a)
  | case3 c a b n => exact absurd rfl (h3 _ a b)
  | case4 c a b n => exact absurd rfl (h4 _ a b)
  | case5 nm r n => exact fun h => Or.inl ⟨nm, r, rfl, h⟩
  | case6 v n => exact fun h => Or.inr ⟨v, rfl, h⟩
  | case7 => intro h; exact h.elim
def ST (d root M C E : Nat) (env : EnvT) (e : Jvm.Term) : Prop := ∀ (n : Nat) (s : Mem) (l3 : AV), RE s e n → EN s M C env → ebd e → n + esz e ≤ E → s 18 root = E →
  match rE env e with
  | some e' => ∃ (s' : Mem) (l3' : AV), Ze d 29 2 [aR 0, aI root, aI n, l3] [] s = Ze d 29 2 [aR 0, aI root, aI ((n + esz e : Nat) : Int), l3'] [] s' ∧ RR s' e' n ∧ Fr (FST n (n + esz e)) s s'
  | none => ∃ s', Ze d 29 2 [aR 0, aI root, aI n, l3] [] s = rI 0 s' ∧ Fr (FST n (n + esz e)) s s'
theorem FST_EN {s s' : Mem} {a b M C : Nat} {env : EnvT} (f : Fr (FST a b) s s') (h : EN s M C env) : EN s' M C env := EN_put (fun k j z => f _ _ (FST_k (by omega))) h
theorem FST_RE {s s' : Mem} {a b n : Nat} {e : Jvm.Term} (f : Fr (FST a b) s s') (hn : n + esz e ≤ a ∨ b ≤ n) (h : RE s e n) : RE s' e n := RE_put h ⟨fun k j z h1 h2 => f _ _ (FST_o (by omega) (by omega)), fun j h1 h2 => f _ _ (FST_k (by decide))⟩
theorem FST_RR {s s' : Mem} {a b n : Nat} {e : Jvm.Term} (f : Fr (FST a b) s s') (hn : n + esz e ≤ a ∨ b ≤ n) (h : RR s e n) : RR s' e n := RR_put h (fun k j z h1 h2 => f _ _ (FST_o (by omega) (by omega)))
theorem st_old {d root M C E : Nat} {env : EnvT} {a : Jvm.Term} (hE : E ≤ 220) (hr : root < 220) (ih : ST d root M C E env a) : ST d root M C E env (.old a) := by
  intro n s l3 hR hEN hbd hn he
  obtain ⟨h1, h2, h3, h4, h5⟩ := hR
  simp only [esz] at hn ⊢
  rw [st_skip hE hr (by omega) s he (by rw [h1]; decide) l3]
  have h := ih (n + 1) s l3 h5 hEN hbd (by omega) he
  unfold rE
  cases hq : rE env a with
  | none =>
    rw [hq] at h
    obtain ⟨s', g1, g2⟩ := h
    exact ⟨s', g1, g2.mono (fun _ _ => FST_sub (by omega) (by omega))⟩
  | some a' =>
    rw [hq] at h
    obtain ⟨s', l3', g1, g2, g3⟩ := h
    have hz := rE_esz hq
    have o : ∀ k, k ≠ 0 → s' k n = s k n := fun k hk => g3 _ _ (FST_o hk (Or.inl (Nat.lt_succ_self _)))
    refine ⟨s', l3', by rw [g1, show n + 1 + esz a = n + (1 + esz a) by omega], ⟨by rw [o _ (by decide), h1], by rw [o _ (by decide), h2], by rw [o _ (by decide), h3], by rw [o _ (by decide), h4, hz], g2⟩, g3.mono (fun _ _ => FST_sub (by omega) (by omega))⟩
theorem st_mul {d root M C E : Nat} {env : EnvT} {x a : Jvm.Term} (hE : E ≤ 220) (hr : root < 220) (ih : ST d root M C E env a) : ST d root M C E env (.mul x a) := by
  intro n s l3 hR hEN hbd hn he
  have hx : ∃ h l, x = .add (.arg h) (.arg l) := by
    revert hR
    generalize hy : Jvm.Term.mul x a = y
    fun_cases RE s y n with
    | case2 h l a' n => cases hy; exact fun _ => ⟨h, l, rfl⟩
    | case7 => intro h; exact h.elim
    | _ => exact (nomatch hy)
  obtain ⟨h, l, rfl⟩ := hx
  obtain ⟨h1, h2, h3, h4, h5, h6, h7, h8⟩ := hR
  simp only [esz] at hn ⊢
  rw [st_skip hE hr (by omega) s he (by rw [h1]; decide) l3]
  have h := ih (n + 1) s l3 h8 hEN hbd (by omega) he
  unfold rE
  cases hq : rE env a with
  | none =>
    rw [hq] at h
    obtain ⟨s', g1, g2⟩ := h
    exact ⟨s', g1, g2.mono (fun _ _ => FST_sub (by omega) (by omega))⟩
  | some a' =>
    rw [hq] at h
    obtain ⟨s', l3', g1, g2, g3⟩ := h
    have hz := rE_esz hq
    have o : ∀ k, k ≠ 0 → s' k n = s k n := fun k hk => g3 _ _ (FST_o hk (Or.inl (Nat.lt_succ_self _)))
    refine ⟨s', l3', by rw [g1, show n + 1 + esz a = n + (1 + esz a) by omega], ⟨by rw [o _ (by decide), h1], by rw [o _ (by decide), h2], by rw [o _ (by decide), h3], h4, by rw [o _ (by decide), h5], by rw [o _ (by decide), h6], by rw [o _ (by decide), h7, hz], g2⟩, g3.mono (fun _ _ => FST_sub (by omega) (by omega))⟩
theorem st_div {d root M C E : Nat} {env : EnvT} {c a b : Jvm.Term} (hE : E ≤ 220) (hr : root < 220) (iha : ST d root M C E env a) (ihb : ST d root M C E env b) : ST d root M C E env (.div c (.rem a b)) := by
  intro n s l3 hR hEN hbd hn he
  have hx : ∃ h, c = .arg h := by
    revert hR
    generalize hy : Jvm.Term.div c (.rem a b) = y
    fun_cases RE s y n with
    | case3 c' a' b' n => cases hy; exact fun _ => ⟨c', rfl⟩
    | case7 => intro h; exact h.elim
    | _ => exact (nomatch hy)
  obtain ⟨c, rfl⟩ := hx
  obtain ⟨h1, h2, h3, h4, h5, h6, h7⟩ := hR
  obtain ⟨hba, hbb⟩ := hbd
  simp only [esz] at hn ⊢
  have hc0 : ¬ (c : Int) = 0 := by unfold two at h2; omega
  rw [st_skip hE hr (by omega) s he (by rw [h1]; exact hc0) l3]
  have h := iha (n + 1) s l3 h6 hEN hba (by omega) he
  unfold rE
  cases hq : rE env a with
  | none =>
    rw [hq] at h
    obtain ⟨s', g1, g2⟩ := h
    exact ⟨s', g1, g2.mono (fun _ _ => FST_sub (by omega) (by omega))⟩
  | some a' =>
    rw [hq] at h
    obtain ⟨s1, l3', g1, g2, g3⟩ := h
    have hz := rE_esz hq
    have hb := ihb (n + 1 + esz a) s1 l3' (FST_RE g3 (Or.inr (Nat.le_refl _)) h7) (FST_EN g3 hEN) hbb (by omega) (by rw [g3 _ _ (FST_k (by decide)), he])
    dsimp only
    cases hq2 : rE env b with
    | none =>
      rw [hq2] at hb
      obtain ⟨s2, q1, q2⟩ := hb
      exact ⟨s2, g1.trans q1, (g3.mono (fun _ _ => FST_sub (by omega) (by omega))).tr (q2.mono (fun _ _ => FST_sub (by omega) (by omega)))⟩
    | some b' =>
      rw [hq2] at hb
      obtain ⟨s2, l4, q1, q2, q3⟩ := hb
      have hz2 := rE_esz hq2
      have o : ∀ k, k ≠ 0 → s2 k n = s k n := fun k hk => by rw [q3 _ _ (FST_o hk (Or.inl (by omega))), g3 _ _ (FST_o hk (Or.inl (Nat.lt_succ_self _)))]
      refine ⟨s2, l4, by rw [g1, q1, show n + 1 + esz a + esz b = n + (1 + esz a + esz b) by omega], ⟨by rw [o _ (by decide), h1], h2, by rw [o _ (by decide), h3], by rw [o _ (by decide), h4, hz], by rw [o _ (by decide), h5, hz, hz2], FST_RR q3 (Or.inl (by omega)) g2, by rw [hz]; exact q2⟩, (g3.mono (fun _ _ => FST_sub (by omega) (by omega))).tr (q3.mono (fun _ _ => FST_sub (by omega) (by omega)))⟩
theorem st_sub {d root M C E : Nat} {env : EnvT} {c a b : Jvm.Term} (hE : E ≤ 220) (hr : root < 220) (ihc : ST d root M C E env c) (iha : ST d root M C E env a) (ihb : ST d root M C E env b) : ST d root M C E env (.sub c (.rem a b)) := by
  intro n s l3 hR hEN hbd hn he
  obtain ⟨h1, h2, h3, h4, h5, h6, h7, h8⟩ := hR
  obtain ⟨hbc, hba, hbb⟩ := hbd
  simp only [esz] at hn ⊢
  rw [st_skip hE hr (by omega) s he (by rw [h1]; decide) l3]
  have h := ihc (n + 1) s l3 h6 hEN hbc (by omega) he
  unfold rE
  cases hq : rE env c with
  | none =>
    rw [hq] at h
    obtain ⟨s', g1, g2⟩ := h
    exact ⟨s', g1, g2.mono (fun _ _ => FST_sub (by omega) (by omega))⟩
  | some c' =>
    rw [hq] at h
    obtain ⟨s1, l3', g1, g2, g3⟩ := h
    have hz := rE_esz hq
    have ha := iha (n + 1 + esz c) s1 l3' (FST_RE g3 (Or.inr (Nat.le_refl _)) h7) (FST_EN g3 hEN) hba (by omega) (by rw [g3 _ _ (FST_k (by decide)), he])
    dsimp only
    cases hq2 : rE env a with
    | none =>
      rw [hq2] at ha
      obtain ⟨s2, q1, q2⟩ := ha
      exact ⟨s2, g1.trans q1, (g3.mono (fun _ _ => FST_sub (by omega) (by omega))).tr (q2.mono (fun _ _ => FST_sub (by omega) (by omega)))⟩
    | some a' =>
      rw [hq2] at ha
      obtain ⟨s2, l4, q1, q2, q3⟩ := ha
      have hz2 := rE_esz hq2
      have hb := ihb (n + 1 + esz c + esz a) s2 l4 (FST_RE q3 (Or.inr (Nat.le_refl _)) (FST_RE g3 (Or.inr (by omega)) h8)) (FST_EN q3 (FST_EN g3 hEN)) hbb (by omega) (by rw [q3 _ _ (FST_k (by decide)), g3 _ _ (FST_k (by decide)), he])
      dsimp only
      cases hq3 : rE env b with
      | none =>
        rw [hq3] at hb
        obtain ⟨s3, p1, p2⟩ := hb
        exact ⟨s3, (g1.trans q1).trans p1, ((g3.mono (fun _ _ => FST_sub (by omega) (by omega))).tr (q3.mono (fun _ _ => FST_sub (by omega) (by omega)))).tr (p2.mono (fun _ _ => FST_sub (by omega) (by omega)))⟩
      | some b' =>
        rw [hq3] at hb
        obtain ⟨s3, l5, p1, p2, p3⟩ := hb
        have hz3 := rE_esz hq3
        have o : ∀ k, k ≠ 0 → s3 k n = s k n := fun k hk => by rw [p3 _ _ (FST_o hk (Or.inl (by omega))), q3 _ _ (FST_o hk (Or.inl (by omega))), g3 _ _ (FST_o hk (Or.inl (Nat.lt_succ_self _)))]
        refine ⟨s3, l5, by rw [g1, q1, p1, show n + 1 + esz c + esz a + esz b = n + (1 + esz c + esz a + esz b) by omega], ⟨by rw [o _ (by decide), h1], by rw [o _ (by decide), h2], by rw [o _ (by decide), h3, hz], by rw [o _ (by decide), h4, hz, hz2], by rw [o _ (by decide), h5, hz, hz2, hz3], FST_RR p3 (Or.inl (by omega)) (FST_RR q3 (Or.inl (by omega)) g2), FST_RR p3 (by rw [hz]; omega) (by rw [hz]; exact q2), by rw [hz, hz2]; exact p2⟩, ((g3.mono (fun _ _ => FST_sub (by omega) (by omega))).tr (q3.mono (fun _ _ => FST_sub (by omega) (by omega)))).tr (p3.mono (fun _ _ => FST_sub (by omega) (by omega)))⟩
theorem st_all {d root M C E : Nat} {env : EnvT} (hd : 1 ≤ d) (hM : M ≤ 200) (hC : C ≤ 100) (hE : E ≤ 220) (hr : root < 220) (e : Jvm.Term) : ST d root M C E env e := by
  fun_induction esz e with
  | case1 a ih => exact st_old hE hr ih
  | case2 x a ih => exact st_mul hE hr ih
  | case3 c a b iha ihb => exact st_div hE hr iha ihb
  | case4 c a b ihc iha ihb => exact st_sub hE hr ihc iha ihb
  | case5 e h1 h2 h3 h4 =>
    intro n s l3 hR hEN hbd hn he
    obtain ⟨nm, r, rfl, g1, g2, g3, g4, g5, -⟩ | ⟨v, rfl, g1, g2, g3, g4⟩ := RE_leaf hR h1 h2 h3 h4
    · have hz : esz (.add (.arg nm) r) = 1 := rfl
      rw [hz] at hn ⊢
      have h := st_ref (d := d) hd hE hr (by omega) s hM hC hEN he g1 g2 g3 g4 hbd l3
      cases hq : rE env (.add (.arg nm) r) with
      | none =>
        rw [hq] at h
        exact h
      | some e' =>
        rw [hq] at h
        obtain ⟨s', g, rfl, q2, q3, q4, q5⟩ := h
        exact ⟨s', aI 1, q3, ⟨by rw [q5 _ _ (FST_k (by decide)), g1], q4, q2, by rw [q5 _ _ (FST_k (by decide)), g5]⟩, q5⟩
    · have hz : esz (.arg v) = 1 := rfl
      rw [hz] at hn ⊢
      exact ⟨s, l3, st_skip hE hr (by omega) s he (by rw [g1]; decide) l3, ⟨g1, g2, g3, g4⟩, Fr.rf s⟩
/-- settles -/
theorem t_settles {d root M C : Nat} {env : EnvT} {e : Jvm.Term} (hd : 2 ≤ d) (s : Mem) (hM : M ≤ 200) (hC : C ≤ 100) (hE : root + esz e ≤ 220) (hR : RE s e root) (hEN : EN s M C env) (hbd : ebd e) :
    match rE env e with
    | some e' => ∃ s', Zc d 29 [aR 0, aI root] s = rI 1 s' ∧ RR s' e' root ∧ Fr (FST root (root + esz e)) s s'
    | none => ∃ s', Zc d 29 [aR 0, aI root] s = rI 0 s' ∧ Fr (FST root (root + esz e)) s s' := by
  obtain ⟨d, rfl⟩ : ∃ e, d = e + 1 := ⟨d - 1, by omega⟩
  have hp := esz_pos e
  have he : s 18 root = ((root + esz e : Nat) : Int) := by
    revert hR
    fun_cases RE s e root with
    | case1 a => intro h; rw [h.2.2.2.1]; simp only [esz]; omega
    | case2 h l a => intro h; rw [h.2.2.2.2.2.2.1]; simp only [esz]; omega
    | case3 c a b => intro h; rw [h.2.2.2.2.1]; simp only [esz]; omega
    | case4 c a b => intro h; rw [h.2.2.2.2.1]; simp only [esz]; omega
    | case5 nm r => intro h; rw [h.2.2.2.2.1]; rfl
    | case6 v => intro h; rw [h.2.2.2]; rfl
    | case7 => intro h; exact h.elim
  have h0 : Zc (d + 1) 29 [aR 0, aI root] s = Ze d 29 2 [aR 0, aI root, aI root, aU] [] s := by
    simp (disch := first | exact obC_0 | omega | (simp only [aN1_12, aN1_15, aN1_18]; omega) | (simp only [List.length_cons, List.length_nil]; omega)) only [en29, x29_0, x29_1, x29_3, x29_4, x29_7, x29_8, x29_9, x29_12, x29_13, x29_16, x29_17, x29_18, x29_21, x29_24, x29_25, x29_26, x29_29, x29_30, x29_31, x29_34, x29_35, x29_38, x29_41, x29_42, x29_43, x29_44, x29_47, x29_48, x29_49, x29_52, x29_53, x29_56, x29_59, x29_60, fcn_0_19, fcn_0_22, fcn_0_25, if_true, if_false, eq_self, Int.reduceEq, Int.reduceLT, Int.reduceLE, Int.reduceAdd, Int.reduceSub, Int.reduceMul, Int.reduceToNat, Nat.reduceAdd, Nat.reduceMul, Nat.reduceEqDiff, Int.toNat_natCast, wrap_id]
  have h := st_all (d := d) (root := root) (env := env) (by omega) hM hC hE (by omega) e root s aU hR hEN hbd (Nat.le_refl _) he
  rw [h0]
  cases hq : rE env e with
  | none =>
    rw [hq] at h
    exact h
  | some e' =>
    rw [hq] at h
    obtain ⟨s', l3', g1, g2, g3⟩ := h
    refine ⟨s', g1.trans ?_, g2, g3⟩
    have he' : s' 18 root = ((root + esz e : Nat) : Int) := by rw [g3 _ _ (FST_k (by decide)), he]
    rw [x29_2]
    simp (disch := first | exact obC_0 | omega | (simp only [aN1_12, aN1_15, aN1_18]; omega) | (simp only [List.length_cons, List.length_nil]; omega)) only [en29, x29_0, x29_1, x29_3, x29_4, x29_7, x29_8, x29_9, x29_12, x29_13, x29_16, x29_17, x29_18, x29_21, x29_24, x29_25, x29_26, x29_29, x29_30, x29_31, x29_34, x29_35, x29_38, x29_41, x29_42, x29_43, x29_44, x29_47, x29_48, x29_49, x29_52, x29_53, x29_56, x29_59, x29_60, fcn_0_19, fcn_0_22, fcn_0_25, if_true, if_false, eq_self, Int.reduceEq, Int.reduceLT, Int.reduceLE, Int.reduceAdd, Int.reduceSub, Int.reduceMul, Int.reduceToNat, Nat.reduceAdd, Nat.reduceMul, Nat.reduceEqDiff, Int.toNat_natCast, wrap_id, he', if_neg (show ¬ ((root + esz e : Nat) : Int) < ((root + esz e : Nat) : Int) by omega)]
