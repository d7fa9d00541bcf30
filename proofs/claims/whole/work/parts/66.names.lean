/-! THE DOCUMENT: names and types -/
/-- a field by its name: how far behind the bundle's start, whether back, its type -/
def fnd (k : Nat) : Jvm.Term → Option (Nat × Nat × Jvm.Term)
  | .div (.sub (.arg nm) (.arg bk)) (.rem t r) => if nm = k then some (0, bk, t) else
    match fnd k r with
    | some (o, b, t') => some (tsz t + o, b, t')
    | none => none
  | _ => none
/-- behind a path: the first signal, the type, how many ~ were passed -/
def rsv : Jvm.Term → Nat → Jvm.Term → Nat → Option (Nat × Jvm.Term × Nat)
  | .elem (.arg k) r, i, .sum fs, f => if k < 100 then
      match fnd k fs with
      | some (o, b, t') => rsv r (i + o) t' (f + b)
      | none => none
    else none
  | .elem (.arg k) r, i, .mul (.arg n) t', f => if k < 100 then none else if k - 100 < n then rsv r (i + (k - 100) * tsz t') t' f else none
  | .elem (.arg _) _, _, _, _ => none
  | _, i, t, f => some (i, t, f)
abbrev EnvT : Type := Nat → Option (Jvm.Term × Nat)
def lk (env : EnvT) (nm : Nat) (r : Jvm.Term) : Option (Nat × Jvm.Term × Nat) :=
  match env nm with
  | some (t, b) => rsv r b t 0
  | none => none
def isGr : Jvm.Term → Bool
  | .arg _ => true
  | _ => false
/-- a type in the reference's types; -1 is that of a node -/
def TY (s : Mem) (M C : Nat) (t : Jvm.Term) (n : Int) : Prop := (n = -1 ∧ t = tU 0) ∨ RT s 0 M 0 C true t n
/-- the names that are declared -/
def EN (s : Mem) (M C : Nat) (env : EnvT) : Prop := ∀ d, d < 26 → match env d with
  | none => s 32 d = -1
  | some (t, b) => 0 ≤ s 32 d ∧ s 34 d = b ∧ TY s M C t (s 33 d) ∧ b + tsz t ≤ 24
theorem RT_inv {s : Mem} {a b c e : Nat} {t : Jvm.Term} {n : Int} (h : RT s a b c e true t n) :
    (∃ w, t = .arg w ∧ s 2 n.toNat = 0 ∧ s 3 n.toNat = w ∧ w ≤ 16) ∨
    (∃ fs, t = .sum fs ∧ s 2 n.toNat = 1 ∧ 1 ≤ tsz fs ∧ RT s a b c e false fs (s 4 n.toNat)) ∨
    (∃ k t', t = .mul (.arg k) t' ∧ s 2 n.toNat = 2 ∧ s 3 n.toNat = (k : Nat) ∧ (1 ≤ k ∧ k ≤ 4) ∧ RT s a b c e true t' (s 4 n.toNat)) := by
  generalize hy : true = y at h
  revert h
  fun_cases RT s a b c e y t n with
  | case1 w n => exact fun h => Or.inl ⟨w, rfl, h.2.2.1, h.2.2.2.1, h.2.2.2.2.2⟩
  | case2 k t n => exact fun h => Or.inr (Or.inr ⟨k, t, rfl, h.2.2.1, h.2.2.2.1, h.2.2.2.2.2.1, h.2.2.2.2.2.2⟩)
  | case3 fs n => exact fun h => Or.inr (Or.inl ⟨fs, rfl, h.2.2.1, h.2.2.2.2.1, h.2.2.2.2.2⟩)
  | case4 => exact (nomatch hy)
  | case5 => exact (nomatch hy)
  | case6 => intro h; exact h.elim
theorem RT_inf {s : Mem} {a b c e : Nat} {t : Jvm.Term} {n : Int} (h : RT s a b c e false t n) :
    (t = .null ∧ n = -1) ∨
    (∃ nm bk ty r, t = .div (.sub (.arg nm) (.arg bk)) (.rem ty r) ∧ (c : Int) ≤ n ∧ n < e ∧ s 6 n.toNat = (nm : Nat) ∧ s 9 n.toNat = (bk : Nat) ∧ (nm < 26 ∧ bk ≤ 1) ∧ RT s a b c e true ty (s 7 n.toNat) ∧ RT s a b c e false r (s 8 n.toNat)) := by
  generalize hy : false = y at h
  revert h
  fun_cases RT s a b c e y t n with
  | case1 w n => exact (nomatch hy)
  | case2 k t n => exact (nomatch hy)
  | case3 fs n => exact (nomatch hy)
  | case4 nm bk t r => exact fun h => Or.inr ⟨nm, bk, t, r, rfl, h⟩
  | case5 n => exact fun h => Or.inl ⟨rfl, h⟩
  | case6 => intro h; exact h.elim
/-- the parts of a path are what can be read -/
def pbd : Jvm.Term → Prop
  | .elem (.arg k) r => k ≤ 65635 ∧ pbd r
  | _ => True
def FND (k j : Nat) : Prop := k = 0 ∧ (j = 51 ∨ j = 52 ∨ j = 53)
theorem FND_k {s s' : Mem} (h : Fr FND s s') {k j : Nat} (hk : k ≠ 0) : s' k j = s k j := h _ _ (fun z => hk z.1)
theorem TY_put {s s' : Mem} {M C : Nat} {t : Jvm.Term} {n : Int} (h : ∀ k j, 2 ≤ k ∧ k ≤ 9 → s' k j = s k j) (r : TY s M C t n) : TY s' M C t n := r.imp id (RT_put (fun k j z => h k j (by omega)))
theorem RPath_len {s : Mem} {n : Nat} {r : Jvm.Term} {i : Nat} (h : RPath s n r i) : ∃ m, s 21 n = ((i + m : Nat) : Int) ∧ i + m ≤ 6 ∧ (∀ k r', r = .elem (.arg k) r' → 1 ≤ m) := by
  fun_induction RPath s n r i with
  | case1 k r i ih =>
    obtain ⟨m, h1, h2, h3⟩ := ih h.2
    exact ⟨m + 1, by rw [h1]; congr 1; omega, by omega, fun _ _ _ => by omega⟩
  | case2 r i hr => exact ⟨0, h.1, h.2, fun k r' z => absurd z (hr k r')⟩
theorem RPath_pu {s s' : Mem} {n : Nat} {r : Jvm.Term} {i : Nat} (g : ∀ k j, k = 20 ∨ k = 21 → s' k j = s k j) (h : RPath s n r i) : RPath s' n r i := by
  fun_induction RPath s n r i with
  | case1 k r i ih => 
    unfold RPath
    exact ⟨by rw [g _ _ (Or.inl rfl)]; exact h.1, ih h.2⟩
  | case2 r i hr =>
    unfold RPath
    split
    · exact absurd rfl (hr _ _)
    · exact ⟨by rw [g _ _ (Or.inr rfl)]; exact h.1, h.2⟩
theorem fnd_le {k : Nat} {fs : Jvm.Term} {o b : Nat} {t : Jvm.Term} (h : fnd k fs = some (o, b, t)) : o + tsz t ≤ tsz fs := by
  fun_induction fnd k fs generalizing o b t with
  | case1 bk ty r => 
    cases h
    simp only [tsz]
    omega
  | case2 nm bk ty r hn o' b' t' he ih =>
    cases h
    have := ih he
    simp only [tsz]
    omega
  | case3 => exact (nomatch h)
  | case4 => exact (nomatch h)
/-- the walk along the fields -/
theorem rs_fields {d n M C : Nat} (hM : M ≤ 200) (hC : C ≤ 100) (nm : Int) {i kk fl : Nat} (hi : i ≤ 6) (hfl : fl ≤ 9) : ∀ (fs : Jvm.Term) (f : Int) (a : Nat) (s : Mem), RT s 0 M 0 C false fs f → s 0 51 = a → s 0 53 = fl → a + tsz fs ≤ 24 →
    match fnd kk fs with
    | some (o, b, t) => ∃ (s' : Mem) (l5 : AV), Ze d 27 178 [aR 0, aI n, aI nm, aI i, aI kk, aI f] [] s = Ze d 27 45 [aR 0, aI n, aI nm, aI ((i + 1 : Nat) : Int), aI kk, l5] [] s' ∧ s' 0 51 = ((a + o : Nat) : Int) ∧ s' 0 53 = ((fl + b : Nat) : Int) ∧ RT s 0 M 0 C true t (s' 0 52) ∧ b ≤ 1 ∧ Fr FND s s'
    | none => ∃ s', Ze d 27 178 [aR 0, aI n, aI nm, aI i, aI kk, aI f] [] s = rI 0 s' ∧ Fr FND s s' := by
  intro fs
  fun_induction fnd kk fs with
  | case1 bk ty r =>
    intro f a s h ha hf hz
    obtain ⟨h0, -⟩ | ⟨nm', bk', ty', r', e, h1, h2, h3, h4, h5, h6, h7⟩ := RT_inf h
    · exact (nomatch h0)
    · cases e
      obtain ⟨fn, rfl⟩ : ∃ fn : Nat, f = fn := ⟨f.toNat, by omega⟩
      rw [Int.toNat_natCast] at h3 h4 h6 h7
      refine ⟨mu (mu s 0 53 ((fl : Int) + bk)) 0 52 (s 7 fn), aI fn, ?_, by rw [mu_i (by decide), mu_i (by decide), ha]; rfl, by rw [mu_i (by decide), mu_s]; rfl, ?_, h5.2, ((Fr.rf s).mu (by unfold FND; omega)).mu (by unfold FND; omega)⟩
      · rw [x27_178]
        rw [show (((i + 1 : Nat) : Int)) = (i : Int) + 1 by omega]
        simp (disch := first | exact obC_0 | omega | (simp only [aN1_13, aN1_2, aN1_20, aN1_21, aN1_3, aN1_32, aN1_33, aN1_34, aN1_4, aN1_5, aN1_6, aN1_7, aN1_8, aN1_9]; omega) | (simp only [List.length_cons, List.length_nil]; omega)) only [en27, x27_0, x27_1, x27_4, x27_5, x27_6, x27_7, x27_8, x27_11, x27_12, x27_13, x27_16, x27_17, x27_18, x27_19, x27_20, x27_23, x27_24, x27_25, x27_28, x27_29, x27_30, x27_33, x27_34, x27_35, x27_38, x27_39, x27_40, x27_43, x27_44, x27_46, x27_47, x27_50, x27_51, x27_52, x27_55, x27_56, x27_59, x27_61, x27_62, x27_63, x27_64, x27_65, x27_66, x27_68, x27_69, x27_72, x27_75, x27_76, x27_79, x27_80, x27_83, x27_84, x27_86, x27_88, x27_91, x27_92, x27_95, x27_96, x27_99, x27_100, x27_101, x27_103, x27_105, x27_108, x27_110, x27_112, x27_113, x27_114, x27_117, x27_118, x27_121, x27_122, x27_125, x27_126, x27_127, x27_128, x27_129, x27_132, x27_133, x27_136, x27_137, x27_140, x27_141, x27_141i, x27_142, x27_145, x27_147, x27_149, x27_150, x27_151, x27_154, x27_155, x27_158, x27_159, x27_160, x27_161, x27_164, x27_167, x27_168, x27_171, x27_172, x27_175, x27_176, x27_180, x27_183, x27_184, x27_187, x27_189, x27_190, x27_192, x27_195, x27_196, x27_196i, x27_197, x27_200, x27_201, x27_204, x27_205, x27_208, x27_210, x27_211, x27_212, x27_213, x27_216, x27_217, x27_220, x27_222, x27_223, x27_225, x27_228, x27_230, x27_233, x27_234, x27_235, x27_236, x27_236i, x27_237, x27_240, x27_241, x27_244, x27_246, x27_247, x27_248, x27_251, x27_252, x27_253, x27_256, x27_258, x27_259, x27_262, x27_265, x27_268, x27_269, fcn_0_10, fcn_0_11, fcn_0_12, fcn_0_13, fcn_0_20, fcn_0_27, fcn_0_28, fcn_0_41, fcn_0_42, fcn_0_43, fcn_0_6, fcn_0_7, fcn_0_8, fcn_0_9, if_true, if_false, eq_self, Int.reduceEq, Int.reduceLT, Int.reduceLE, Int.reduceAdd, Int.reduceSub, Int.reduceMul, Int.reduceToNat, Nat.reduceAdd, Nat.reduceMul, Nat.reduceEqDiff, Int.toNat_natCast, wrap_id, h3, h4, hf, mu_c, mu_i, if_neg (show ¬ (fn : Int) < 0 by omega), if_pos (show 0 ≤ (fn : Int) by omega)]
      · rw [mu_s]
        exact h6
  | case2 nm' bk ty r hn o b t he ih =>
    intro f a s h ha hf hz
    obtain ⟨h0, -⟩ | ⟨nm'', bk', ty', r', e, h1, h2, h3, h4, h5, h6, h7⟩ := RT_inf h
    · exact (nomatch h0)
    · cases e
      obtain ⟨fn, rfl⟩ : ∃ fn : Nat, f = fn := ⟨f.toNat, by omega⟩
      rw [Int.toNat_natCast] at h3 h4 h6 h7
      obtain ⟨r1, r2, r3, r4⟩ := RT_size h6
      simp only [tsz] at hz
      obtain ⟨tn, htn⟩ : ∃ tn : Nat, s 7 fn = tn := ⟨(s 7 fn).toNat, by omega⟩
      rw [htn, Int.toNat_natCast] at r3
      rw [show min 25 (tsz ty) = tsz ty by omega] at r3
      generalize hs1 : mu s 0 51 ((a : Int) + tsz ty) = s1
      have k1 : ∀ {k j : Nat}, k ≠ 0 → s1 k j = s k j := fun h => by rw [← hs1, mu_c h]
      have f1 : Fr FND s s1 := by rw [← hs1]; exact (Fr.rf s).mu (by unfold FND; omega)
      have fn1 : s1 8 fn = s 8 fn := k1 (by decide)
      have hz1 : Ze d 27 178 [aR 0, aI n, aI nm, aI i, aI kk, aI fn] [] s = Ze d 27 178 [aR 0, aI n, aI nm, aI i, aI kk, aI (s 8 fn)] [] s1 := by
        rw [x27_178]
        simp (disch := first | exact obC_0 | omega | (simp only [aN1_13, aN1_2, aN1_20, aN1_21, aN1_3, aN1_32, aN1_33, aN1_34, aN1_4, aN1_5, aN1_6, aN1_7, aN1_8, aN1_9]; omega) | (simp only [List.length_cons, List.length_nil]; omega)) only [en27, x27_0, x27_1, x27_4, x27_5, x27_6, x27_7, x27_8, x27_11, x27_12, x27_13, x27_16, x27_17, x27_18, x27_19, x27_20, x27_23, x27_24, x27_25, x27_28, x27_29, x27_30, x27_33, x27_34, x27_35, x27_38, x27_39, x27_40, x27_43, x27_44, x27_46, x27_47, x27_50, x27_51, x27_52, x27_55, x27_56, x27_59, x27_61, x27_62, x27_63, x27_64, x27_65, x27_66, x27_68, x27_69, x27_72, x27_75, x27_76, x27_79, x27_80, x27_83, x27_84, x27_86, x27_88, x27_91, x27_92, x27_95, x27_96, x27_99, x27_100, x27_101, x27_103, x27_105, x27_108, x27_110, x27_112, x27_113, x27_114, x27_117, x27_118, x27_121, x27_122, x27_125, x27_126, x27_127, x27_128, x27_129, x27_132, x27_133, x27_136, x27_137, x27_140, x27_141, x27_141i, x27_142, x27_145, x27_147, x27_149, x27_150, x27_151, x27_154, x27_155, x27_158, x27_159, x27_160, x27_161, x27_164, x27_167, x27_168, x27_171, x27_172, x27_175, x27_176, x27_180, x27_183, x27_184, x27_187, x27_189, x27_190, x27_192, x27_195, x27_196, x27_196i, x27_197, x27_200, x27_201, x27_204, x27_205, x27_208, x27_210, x27_211, x27_212, x27_213, x27_216, x27_217, x27_220, x27_222, x27_223, x27_225, x27_228, x27_230, x27_233, x27_234, x27_235, x27_236, x27_236i, x27_237, x27_240, x27_241, x27_244, x27_246, x27_247, x27_248, x27_251, x27_252, x27_253, x27_256, x27_258, x27_259, x27_262, x27_265, x27_268, x27_269, fcn_0_10, fcn_0_11, fcn_0_12, fcn_0_13, fcn_0_20, fcn_0_27, fcn_0_28, fcn_0_41, fcn_0_42, fcn_0_43, fcn_0_6, fcn_0_7, fcn_0_8, fcn_0_9, if_true, if_false, eq_self, Int.reduceEq, Int.reduceLT, Int.reduceLE, Int.reduceAdd, Int.reduceSub, Int.reduceMul, Int.reduceToNat, Nat.reduceAdd, Nat.reduceMul, Nat.reduceEqDiff, Int.toNat_natCast, wrap_id, h3, ha, htn, r3, mu_c, hs1, fn1, if_neg (show ¬ (fn : Int) < 0 by omega), if_neg (show ¬ (nm' : Int) = kk by omega)]
      have hI := ih (s 8 fn) (a + tsz ty) s1 (RT_put (fun k j z => k1 (by omega)) h7) (by rw [← hs1, mu_s]; rfl) (by rw [← hs1, mu_i (by decide), hf]) (by omega)
      rw [he] at hI
      obtain ⟨s', l5, g1, g2, g3, g4, g5, g6⟩ := hI
      exact ⟨s', l5, hz1.trans g1, by rw [g2]; congr 1; omega, g3, RT_put (fun k j z => (k1 (by omega)).symm) g4, g5, f1.tr g6⟩
  | case3 nm' bk ty r hn he ih =>
    intro f a s h ha hf hz
    obtain ⟨h0, -⟩ | ⟨nm'', bk', ty', r', e, h1, h2, h3, h4, h5, h6, h7⟩ := RT_inf h
    · exact (nomatch h0)
    · cases e
      obtain ⟨fn, rfl⟩ : ∃ fn : Nat, f = fn := ⟨f.toNat, by omega⟩
      rw [Int.toNat_natCast] at h3 h4 h6 h7
      obtain ⟨r1, r2, r3, r4⟩ := RT_size h6
      simp only [tsz] at hz
      obtain ⟨tn, htn⟩ : ∃ tn : Nat, s 7 fn = tn := ⟨(s 7 fn).toNat, by omega⟩
      rw [htn, Int.toNat_natCast] at r3
      rw [show min 25 (tsz ty) = tsz ty by omega] at r3
      generalize hs1 : mu s 0 51 ((a : Int) + tsz ty) = s1
      have k1 : ∀ {k j : Nat}, k ≠ 0 → s1 k j = s k j := fun h => by rw [← hs1, mu_c h]
      have f1 : Fr FND s s1 := by rw [← hs1]; exact (Fr.rf s).mu (by unfold FND; omega)
      have fn1 : s1 8 fn = s 8 fn := k1 (by decide)
      have hz1 : Ze d 27 178 [aR 0, aI n, aI nm, aI i, aI kk, aI fn] [] s = Ze d 27 178 [aR 0, aI n, aI nm, aI i, aI kk, aI (s 8 fn)] [] s1 := by
        rw [x27_178]
        simp (disch := first | exact obC_0 | omega | (simp only [aN1_13, aN1_2, aN1_20, aN1_21, aN1_3, aN1_32, aN1_33, aN1_34, aN1_4, aN1_5, aN1_6, aN1_7, aN1_8, aN1_9]; omega) | (simp only [List.length_cons, List.length_nil]; omega)) only [en27, x27_0, x27_1, x27_4, x27_5, x27_6, x27_7, x27_8, x27_11, x27_12, x27_13, x27_16, x27_17, x27_18, x27_19, x27_20, x27_23, x27_24, x27_25, x27_28, x27_29, x27_30, x27_33, x27_34, x27_35, x27_38, x27_39, x27_40, x27_43, x27_44, x27_46, x27_47, x27_50, x27_51, x27_52, x27_55, x27_56, x27_59, x27_61, x27_62, x27_63, x27_64, x27_65, x27_66, x27_68, x27_69, x27_72, x27_75, x27_76, x27_79, x27_80, x27_83, x27_84, x27_86, x27_88, x27_91, x27_92, x27_95, x27_96, x27_99, x27_100, x27_101, x27_103, x27_105, x27_108, x27_110, x27_112, x27_113, x27_114, x27_117, x27_118, x27_121, x27_122, x27_125, x27_126, x27_127, x27_128, x27_129, x27_132, x27_133, x27_136, x27_137, x27_140, x27_141, x27_141i, x27_142, x27_145, x27_147, x27_149, x27_150, x27_151, x27_154, x27_155, x27_158, x27_159, x27_160, x27_161, x27_164, x27_167, x27_168, x27_171, x27_172, x27_175, x27_176, x27_180, x27_183, x27_184, x27_187, x27_189, x27_190, x27_192, x27_195, x27_196, x27_196i, x27_197, x27_200, x27_201, x27_204, x27_205, x27_208, x27_210, x27_211, x27_212, x27_213, x27_216, x27_217, x27_220, x27_222, x27_223, x27_225, x27_228, x27_230, x27_233, x27_234, x27_235, x27_236, x27_236i, x27_237, x27_240, x27_241, x27_244, x27_246, x27_247, x27_248, x27_251, x27_252, x27_253, x27_256, x27_258, x27_259, x27_262, x27_265, x27_268, x27_269, fcn_0_10, fcn_0_11, fcn_0_12, fcn_0_13, fcn_0_20, fcn_0_27, fcn_0_28, fcn_0_41, fcn_0_42, fcn_0_43, fcn_0_6, fcn_0_7, fcn_0_8, fcn_0_9, if_true, if_false, eq_self, Int.reduceEq, Int.reduceLT, Int.reduceLE, Int.reduceAdd, Int.reduceSub, Int.reduceMul, Int.reduceToNat, Nat.reduceAdd, Nat.reduceMul, Nat.reduceEqDiff, Int.toNat_natCast, wrap_id, h3, ha, htn, r3, mu_c, hs1, fn1, if_neg (show ¬ (fn : Int) < 0 by omega), if_neg (show ¬ (nm' : Int) = kk by omega)]
      have hI := ih (s 8 fn) (a + tsz ty) s1 (RT_put (fun k j z => k1 (by omega)) h7) (by rw [← hs1, mu_s]; rfl) (by rw [← hs1, mu_i (by decide), hf]) (by omega)
      rw [he] at hI
      obtain ⟨s', g1, g2⟩ := hI
      exact ⟨s', hz1.trans g1, f1.tr g2⟩
  | case4 t ht =>
    intro f a s h ha hf hz
    obtain ⟨h0, h1⟩ | ⟨nm'', bk', ty', r', e, -⟩ := RT_inf h
    · refine ⟨s, ?_, Fr.rf s⟩
      subst h1
      rw [x27_178]
      simp (disch := first | exact obC_0 | omega | (simp only [aN1_13, aN1_2, aN1_20, aN1_21, aN1_3, aN1_32, aN1_33, aN1_34, aN1_4, aN1_5, aN1_6, aN1_7, aN1_8, aN1_9]; omega) | (simp only [List.length_cons, List.length_nil]; omega)) only [en27, x27_0, x27_1, x27_4, x27_5, x27_6, x27_7, x27_8, x27_11, x27_12, x27_13, x27_16, x27_17, x27_18, x27_19, x27_20, x27_23, x27_24, x27_25, x27_28, x27_29, x27_30, x27_33, x27_34, x27_35, x27_38, x27_39, x27_40, x27_43, x27_44, x27_46, x27_47, x27_50, x27_51, x27_52, x27_55, x27_56, x27_59, x27_61, x27_62, x27_63, x27_64, x27_65, x27_66, x27_68, x27_69, x27_72, x27_75, x27_76, x27_79, x27_80, x27_83, x27_84, x27_86, x27_88, x27_91, x27_92, x27_95, x27_96, x27_99, x27_100, x27_101, x27_103, x27_105, x27_108, x27_110, x27_112, x27_113, x27_114, x27_117, x27_118, x27_121, x27_122, x27_125, x27_126, x27_127, x27_128, x27_129, x27_132, x27_133, x27_136, x27_137, x27_140, x27_141, x27_141i, x27_142, x27_145, x27_147, x27_149, x27_150, x27_151, x27_154, x27_155, x27_158, x27_159, x27_160, x27_161, x27_164, x27_167, x27_168, x27_171, x27_172, x27_175, x27_176, x27_180, x27_183, x27_184, x27_187, x27_189, x27_190, x27_192, x27_195, x27_196, x27_196i, x27_197, x27_200, x27_201, x27_204, x27_205, x27_208, x27_210, x27_211, x27_212, x27_213, x27_216, x27_217, x27_220, x27_222, x27_223, x27_225, x27_228, x27_230, x27_233, x27_234, x27_235, x27_236, x27_236i, x27_237, x27_240, x27_241, x27_244, x27_246, x27_247, x27_248, x27_251, x27_252, x27_253, x27_256, x27_258, x27_259, x27_262, x27_265, x27_268, x27_269, fcn_0_10, fcn_0_11, fcn_0_12, fcn_0_13, fcn_0_20, fcn_0_27, fcn_0_28, fcn_0_41, fcn_0_42, fcn_0_43, fcn_0_6, fcn_0_7, fcn_0_8, fcn_0_9, if_true, if_false, eq_self, Int.reduceEq, Int.reduceLT, Int.reduceLE, Int.reduceAdd, Int.reduceSub, Int.reduceMul, Int.reduceToNat, Nat.reduceAdd, Nat.reduceMul, Nat.reduceEqDiff, Int.toNat_natCast, wrap_id]
    · exact absurd e (ht _ _ _ _)
/-- the walk along the path -/
theorem rs_path {d n M C : Nat} (hn : n < 220) (hM : M ≤ 200) (hC : C ≤ 100) (nm : Int) : ∀ (r : Jvm.Term) (i a fl : Nat) (t : Jvm.Term) (s : Mem) (l4 l5 : AV), RPath s n r i → s 0 51 = a → s 0 53 = fl → TY s M C t (s 0 52) → a + tsz t ≤ 24 → fl ≤ i → pbd r →
    match rsv r a t fl with
    | some (g, t', f') => ∃ s', Ze d 27 45 [aR 0, aI n, aI nm, aI i, l4, l5] [] s = rI 1 s' ∧ s' 0 51 = g ∧ s' 0 53 = f' ∧ TY s M C t' (s' 0 52) ∧ g + tsz t' ≤ a + tsz t ∧ a ≤ g ∧ f' ≤ 6 ∧ Fr FND s s'
    | none => ∃ s', Ze d 27 45 [aR 0, aI n, aI nm, aI i, l4, l5] [] s = rI 0 s' ∧ Fr FND s s' := by
  intro r i a fl t s l4 l5 hP ha hf hT hz hfi hbd
  obtain ⟨m, hm1, hm2, hm3⟩ := RPath_len hP
  fun_induction rsv r a t fl generalizing i s l4 l5 m with
  | case1 k r i0 fs f hk o b t' he ih =>
    have hm0 := hm3 _ _ rfl
    unfold RPath at hP
    unfold pbd at hbd
    obtain ⟨hbk, hbd⟩ := hbd
    have hT' := hT.resolve_left (fun z => nomatch z.2)
    obtain ⟨r1, r2, r3, r4⟩ := RT_size hT'
    obtain ⟨w, e, -⟩ | ⟨fs', e, h1, h2, h3⟩ | ⟨w, w', e, -⟩ := RT_inv hT'
    · exact (nomatch e)
    · cases e
      obtain ⟨ty, hty⟩ : ∃ ty : Nat, s 0 52 = ty := ⟨(s 0 52).toNat, by omega⟩
      rw [hty, Int.toNat_natCast] at h1 h3
      have hF := rs_fields (d := d) (n := n) hM hC nm (i := i) (kk := k) (fl := f) (by omega) (by omega) fs (s 4 ty) i0 s h3 ha hf hz
      rw [he] at hF
      obtain ⟨s', l5', g1, g2, g3, g4, g5, g6⟩ := hF
      have hz1 : Ze d 27 45 [aR 0, aI n, aI nm, aI i, l4, l5] [] s = Ze d 27 178 [aR 0, aI n, aI nm, aI i, aI k, aI (s 4 ty)] [] s := by
        have e6 : (6 * (n : Int) + i).toNat = 6 * n + i := by omega
        rw [x27_45]
        simp (disch := first | exact obC_0 | omega | (simp only [aN1_13, aN1_2, aN1_20, aN1_21, aN1_3, aN1_32, aN1_33, aN1_34, aN1_4, aN1_5, aN1_6, aN1_7, aN1_8, aN1_9]; omega) | (simp only [List.length_cons, List.length_nil]; omega)) only [en27, x27_0, x27_1, x27_4, x27_5, x27_6, x27_7, x27_8, x27_11, x27_12, x27_13, x27_16, x27_17, x27_18, x27_19, x27_20, x27_23, x27_24, x27_25, x27_28, x27_29, x27_30, x27_33, x27_34, x27_35, x27_38, x27_39, x27_40, x27_43, x27_44, x27_46, x27_47, x27_50, x27_51, x27_52, x27_55, x27_56, x27_59, x27_61, x27_62, x27_63, x27_64, x27_65, x27_66, x27_68, x27_69, x27_72, x27_75, x27_76, x27_79, x27_80, x27_83, x27_84, x27_86, x27_88, x27_91, x27_92, x27_95, x27_96, x27_99, x27_100, x27_101, x27_103, x27_105, x27_108, x27_110, x27_112, x27_113, x27_114, x27_117, x27_118, x27_121, x27_122, x27_125, x27_126, x27_127, x27_128, x27_129, x27_132, x27_133, x27_136, x27_137, x27_140, x27_141, x27_141i, x27_142, x27_145, x27_147, x27_149, x27_150, x27_151, x27_154, x27_155, x27_158, x27_159, x27_160, x27_161, x27_164, x27_167, x27_168, x27_171, x27_172, x27_175, x27_176, x27_180, x27_183, x27_184, x27_187, x27_189, x27_190, x27_192, x27_195, x27_196, x27_196i, x27_197, x27_200, x27_201, x27_204, x27_205, x27_208, x27_210, x27_211, x27_212, x27_213, x27_216, x27_217, x27_220, x27_222, x27_223, x27_225, x27_228, x27_230, x27_233, x27_234, x27_235, x27_236, x27_236i, x27_237, x27_240, x27_241, x27_244, x27_246, x27_247, x27_248, x27_251, x27_252, x27_253, x27_256, x27_258, x27_259, x27_262, x27_265, x27_268, x27_269, fcn_0_10, fcn_0_11, fcn_0_12, fcn_0_13, fcn_0_20, fcn_0_27, fcn_0_28, fcn_0_41, fcn_0_42, fcn_0_43, fcn_0_6, fcn_0_7, fcn_0_8, fcn_0_9, if_true, if_false, eq_self, Int.reduceEq, Int.reduceLT, Int.reduceLE, Int.reduceAdd, Int.reduceSub, Int.reduceMul, Int.reduceToNat, Nat.reduceAdd, Nat.reduceMul, Nat.reduceEqDiff, Int.toNat_natCast, wrap_id, hm1, e6, hP.1, hty, h1, if_pos (show (i : Int) < ((i + m : Nat) : Int) by omega), if_neg (show ¬ (ty : Int) < 0 by omega), if_pos (show (k : Int) < 100 by omega)]
      have hsub := fnd_le he
      obtain ⟨m', hm1', hm2', hm3'⟩ := RPath_len (RPath_pu (s' := s') (fun k j z => FND_k g6 (by omega)) hP.2)
      have hI := ih (i + 1) s' (aI k) l5' (RPath_pu (fun k j z => FND_k g6 (by omega)) hP.2) g2 g3 (Or.inr (RT_put (fun k j z => FND_k g6 (by omega)) g4)) (by simp only [tsz] at hz; omega) (by omega) hbd m' hm1' hm2' hm3'
      revert hI
      split
      · rintro ⟨s2, q1, q2, q3, q4, q5, q6, q7, q8⟩
        exact ⟨s2, (hz1.trans g1).trans q1, q2, q3, TY_put (fun k j z => (FND_k g6 (by omega)).symm) q4, by simp only [tsz]; omega, by omega, q7, g6.tr q8⟩
      · rintro ⟨s2, q1, q2⟩
        exact ⟨s2, (hz1.trans g1).trans q1, g6.tr q2⟩
    · exact (nomatch e)
  | case2 k r i0 fs f hk he =>
    have hm0 := hm3 _ _ rfl
    unfold RPath at hP
    unfold pbd at hbd
    obtain ⟨hbk, hbd⟩ := hbd
    have hT' := hT.resolve_left (fun z => nomatch z.2)
    obtain ⟨r1, r2, r3, r4⟩ := RT_size hT'
    obtain ⟨w, e, -⟩ | ⟨fs', e, h1, h2, h3⟩ | ⟨w, w', e, -⟩ := RT_inv hT'
    · exact (nomatch e)
    · cases e
      obtain ⟨ty, hty⟩ : ∃ ty : Nat, s 0 52 = ty := ⟨(s 0 52).toNat, by omega⟩
      rw [hty, Int.toNat_natCast] at h1 h3
      have hF := rs_fields (d := d) (n := n) hM hC nm (i := i) (kk := k) (fl := f) (by omega) (by omega) fs (s 4 ty) i0 s h3 ha hf hz
      rw [he] at hF
      obtain ⟨s', g1, g6⟩ := hF
      have hz1 : Ze d 27 45 [aR 0, aI n, aI nm, aI i, l4, l5] [] s = Ze d 27 178 [aR 0, aI n, aI nm, aI i, aI k, aI (s 4 ty)] [] s := by
        have e6 : (6 * (n : Int) + i).toNat = 6 * n + i := by omega
        rw [x27_45]
        simp (disch := first | exact obC_0 | omega | (simp only [aN1_13, aN1_2, aN1_20, aN1_21, aN1_3, aN1_32, aN1_33, aN1_34, aN1_4, aN1_5, aN1_6, aN1_7, aN1_8, aN1_9]; omega) | (simp only [List.length_cons, List.length_nil]; omega)) only [en27, x27_0, x27_1, x27_4, x27_5, x27_6, x27_7, x27_8, x27_11, x27_12, x27_13, x27_16, x27_17, x27_18, x27_19, x27_20, x27_23, x27_24, x27_25, x27_28, x27_29, x27_30, x27_33, x27_34, x27_35, x27_38, x27_39, x27_40, x27_43, x27_44, x27_46, x27_47, x27_50, x27_51, x27_52, x27_55, x27_56, x27_59, x27_61, x27_62, x27_63, x27_64, x27_65, x27_66, x27_68, x27_69, x27_72, x27_75, x27_76, x27_79, x27_80, x27_83, x27_84, x27_86, x27_88, x27_91, x27_92, x27_95, x27_96, x27_99, x27_100, x27_101, x27_103, x27_105, x27_108, x27_110, x27_112, x27_113, x27_114, x27_117, x27_118, x27_121, x27_122, x27_125, x27_126, x27_127, x27_128, x27_129, x27_132, x27_133, x27_136, x27_137, x27_140, x27_141, x27_141i, x27_142, x27_145, x27_147, x27_149, x27_150, x27_151, x27_154, x27_155, x27_158, x27_159, x27_160, x27_161, x27_164, x27_167, x27_168, x27_171, x27_172, x27_175, x27_176, x27_180, x27_183, x27_184, x27_187, x27_189, x27_190, x27_192, x27_195, x27_196, x27_196i, x27_197, x27_200, x27_201, x27_204, x27_205, x27_208, x27_210, x27_211, x27_212, x27_213, x27_216, x27_217, x27_220, x27_222, x27_223, x27_225, x27_228, x27_230, x27_233, x27_234, x27_235, x27_236, x27_236i, x27_237, x27_240, x27_241, x27_244, x27_246, x27_247, x27_248, x27_251, x27_252, x27_253, x27_256, x27_258, x27_259, x27_262, x27_265, x27_268, x27_269, fcn_0_10, fcn_0_11, fcn_0_12, fcn_0_13, fcn_0_20, fcn_0_27, fcn_0_28, fcn_0_41, fcn_0_42, fcn_0_43, fcn_0_6, fcn_0_7, fcn_0_8, fcn_0_9, if_true, if_false, eq_self, Int.reduceEq, Int.reduceLT, Int.reduceLE, Int.reduceAdd, Int.reduceSub, Int.reduceMul, Int.reduceToNat, Nat.reduceAdd, Nat.reduceMul, Nat.reduceEqDiff, Int.toNat_natCast, wrap_id, hm1, e6, hP.1, hty, h1, if_pos (show (i : Int) < ((i + m : Nat) : Int) by omega), if_neg (show ¬ (ty : Int) < 0 by omega), if_pos (show (k : Int) < 100 by omega)]
      exact ⟨s', hz1.trans g1, g6⟩
    · exact (nomatch e)
  | case3 k r i0 fs f hk =>
    have hm0 := hm3 _ _ rfl
    unfold RPath at hP
    unfold pbd at hbd
    obtain ⟨hbk, hbd⟩ := hbd
    have hT' := hT.resolve_left (fun z => nomatch z.2)
    obtain ⟨r1, r2, r3, r4⟩ := RT_size hT'
    obtain ⟨w, e, -⟩ | ⟨fs', e, h1, h2, h3⟩ | ⟨w, w', e, -⟩ := RT_inv hT'
    · exact (nomatch e)
    · obtain ⟨ty, hty⟩ : ∃ ty : Nat, s 0 52 = ty := ⟨(s 0 52).toNat, by omega⟩
      rw [hty, Int.toNat_natCast] at h1 h3
      refine ⟨s, ?_, Fr.rf s⟩
      have e6 : (6 * (n : Int) + i).toNat = 6 * n + i := by omega
      rw [x27_45]
      simp (disch := first | exact obC_0 | omega | (simp only [aN1_13, aN1_2, aN1_20, aN1_21, aN1_3, aN1_32, aN1_33, aN1_34, aN1_4, aN1_5, aN1_6, aN1_7, aN1_8, aN1_9]; omega) | (simp only [List.length_cons, List.length_nil]; omega)) only [en27, x27_0, x27_1, x27_4, x27_5, x27_6, x27_7, x27_8, x27_11, x27_12, x27_13, x27_16, x27_17, x27_18, x27_19, x27_20, x27_23, x27_24, x27_25, x27_28, x27_29, x27_30, x27_33, x27_34, x27_35, x27_38, x27_39, x27_40, x27_43, x27_44, x27_46, x27_47, x27_50, x27_51, x27_52, x27_55, x27_56, x27_59, x27_61, x27_62, x27_63, x27_64, x27_65, x27_66, x27_68, x27_69, x27_72, x27_75, x27_76, x27_79, x27_80, x27_83, x27_84, x27_86, x27_88, x27_91, x27_92, x27_95, x27_96, x27_99, x27_100, x27_101, x27_103, x27_105, x27_108, x27_110, x27_112, x27_113, x27_114, x27_117, x27_118, x27_121, x27_122, x27_125, x27_126, x27_127, x27_128, x27_129, x27_132, x27_133, x27_136, x27_137, x27_140, x27_141, x27_141i, x27_142, x27_145, x27_147, x27_149, x27_150, x27_151, x27_154, x27_155, x27_158, x27_159, x27_160, x27_161, x27_164, x27_167, x27_168, x27_171, x27_172, x27_175, x27_176, x27_180, x27_183, x27_184, x27_187, x27_189, x27_190, x27_192, x27_195, x27_196, x27_196i, x27_197, x27_200, x27_201, x27_204, x27_205, x27_208, x27_210, x27_211, x27_212, x27_213, x27_216, x27_217, x27_220, x27_222, x27_223, x27_225, x27_228, x27_230, x27_233, x27_234, x27_235, x27_236, x27_236i, x27_237, x27_240, x27_241, x27_244, x27_246, x27_247, x27_248, x27_251, x27_252, x27_253, x27_256, x27_258, x27_259, x27_262, x27_265, x27_268, x27_269, fcn_0_10, fcn_0_11, fcn_0_12, fcn_0_13, fcn_0_20, fcn_0_27, fcn_0_28, fcn_0_41, fcn_0_42, fcn_0_43, fcn_0_6, fcn_0_7, fcn_0_8, fcn_0_9, if_true, if_false, eq_self, Int.reduceEq, Int.reduceLT, Int.reduceLE, Int.reduceAdd, Int.reduceSub, Int.reduceMul, Int.reduceToNat, Nat.reduceAdd, Nat.reduceMul, Nat.reduceEqDiff, Int.toNat_natCast, wrap_id, hm1, e6, hP.1, hty, h1, if_pos (show (i : Int) < ((i + m : Nat) : Int) by omega), if_neg (show ¬ (ty : Int) < 0 by omega), if_neg (show ¬ (k : Int) < 100 by omega)]
    · exact (nomatch e)
  | case4 k r i0 w t' f hk =>
    have hm0 := hm3 _ _ rfl
    unfold RPath at hP
    unfold pbd at hbd
    obtain ⟨hbk, hbd⟩ := hbd
    have hT' := hT.resolve_left (fun z => nomatch z.2)
    obtain ⟨r1, r2, r3, r4⟩ := RT_size hT'
    obtain ⟨w, e, -⟩ | ⟨fs', e, -⟩ | ⟨w, w', e, h1, h2, h3, h4⟩ := RT_inv hT'
    · exact (nomatch e)
    · exact (nomatch e)
    · obtain ⟨ty, hty⟩ : ∃ ty : Nat, s 0 52 = ty := ⟨(s 0 52).toNat, by omega⟩
      rw [hty, Int.toNat_natCast] at h1 h2 h4
      refine ⟨s, ?_, Fr.rf s⟩
      have e6 : (6 * (n : Int) + i).toNat = 6 * n + i := by omega
      rw [x27_45]
      simp (disch := first | exact obC_0 | omega | (simp only [aN1_13, aN1_2, aN1_20, aN1_21, aN1_3, aN1_32, aN1_33, aN1_34, aN1_4, aN1_5, aN1_6, aN1_7, aN1_8, aN1_9]; omega) | (simp only [List.length_cons, List.length_nil]; omega)) only [en27, x27_0, x27_1, x27_4, x27_5, x27_6, x27_7, x27_8, x27_11, x27_12, x27_13, x27_16, x27_17, x27_18, x27_19, x27_20, x27_23, x27_24, x27_25, x27_28, x27_29, x27_30, x27_33, x27_34, x27_35, x27_38, x27_39, x27_40, x27_43, x27_44, x27_46, x27_47, x27_50, x27_51, x27_52, x27_55, x27_56, x27_59, x27_61, x27_62, x27_63, x27_64, x27_65, x27_66, x27_68, x27_69, x27_72, x27_75, x27_76, x27_79, x27_80, x27_83, x27_84, x27_86, x27_88, x27_91, x27_92, x27_95, x27_96, x27_99, x27_100, x27_101, x27_103, x27_105, x27_108, x27_110, x27_112, x27_113, x27_114, x27_117, x27_118, x27_121, x27_122, x27_125, x27_126, x27_127, x27_128, x27_129, x27_132, x27_133, x27_136, x27_137, x27_140, x27_141, x27_141i, x27_142, x27_145, x27_147, x27_149, x27_150, x27_151, x27_154, x27_155, x27_158, x27_159, x27_160, x27_161, x27_164, x27_167, x27_168, x27_171, x27_172, x27_175, x27_176, x27_180, x27_183, x27_184, x27_187, x27_189, x27_190, x27_192, x27_195, x27_196, x27_196i, x27_197, x27_200, x27_201, x27_204, x27_205, x27_208, x27_210, x27_211, x27_212, x27_213, x27_216, x27_217, x27_220, x27_222, x27_223, x27_225, x27_228, x27_230, x27_233, x27_234, x27_235, x27_236, x27_236i, x27_237, x27_240, x27_241, x27_244, x27_246, x27_247, x27_248, x27_251, x27_252, x27_253, x27_256, x27_258, x27_259, x27_262, x27_265, x27_268, x27_269, fcn_0_10, fcn_0_11, fcn_0_12, fcn_0_13, fcn_0_20, fcn_0_27, fcn_0_28, fcn_0_41, fcn_0_42, fcn_0_43, fcn_0_6, fcn_0_7, fcn_0_8, fcn_0_9, if_true, if_false, eq_self, Int.reduceEq, Int.reduceLT, Int.reduceLE, Int.reduceAdd, Int.reduceSub, Int.reduceMul, Int.reduceToNat, Nat.reduceAdd, Nat.reduceMul, Nat.reduceEqDiff, Int.toNat_natCast, wrap_id, hm1, e6, hP.1, hty, h1, if_pos (show (i : Int) < ((i + m : Nat) : Int) by omega), if_neg (show ¬ (ty : Int) < 0 by omega), if_pos (show (k : Int) < 100 by omega)]
  | case5 k r i0 w t' f hk hkw ih =>
    have hm0 := hm3 _ _ rfl
    unfold RPath at hP
    unfold pbd at hbd
    obtain ⟨hbk, hbd⟩ := hbd
    have hT' := hT.resolve_left (fun z => nomatch z.2)
    obtain ⟨r1, r2, r3, r4⟩ := RT_size hT'
    obtain ⟨w', e, -⟩ | ⟨fs', e, -⟩ | ⟨w', w'', e, h1, h2, h3, h4⟩ := RT_inv hT'
    · exact (nomatch e)
    · exact (nomatch e)
    · cases e
      obtain ⟨ty, hty⟩ : ∃ ty : Nat, s 0 52 = ty := ⟨(s 0 52).toNat, by omega⟩
      rw [hty, Int.toNat_natCast] at h1 h2 h4
      obtain ⟨q1, q2, q3, q4⟩ := RT_size h4
      obtain ⟨ey, hey⟩ : ∃ ey : Nat, s 4 ty = ey := ⟨(s 4 ty).toNat, by omega⟩
      rw [hey, Int.toNat_natCast] at q3
      rw [hey] at h4 q1 q2
      simp only [tsz] at hz
      have hb1 : tsz t' ≤ w * tsz t' := Nat.le_mul_of_pos_left _ (by omega)
      rw [show min 25 (tsz t') = tsz t' by omega] at q3
      have hb2 : (k - 100) * tsz t' + tsz t' ≤ w * tsz t' := by
        rw [← Nat.succ_mul]
        exact Nat.mul_le_mul_right _ (by omega)
      obtain ⟨z, hzz⟩ : ∃ z : Nat, (k - 100) * tsz t' = z := ⟨_, rfl⟩
      have hzi : ((k : Int) - 100) * (tsz t' : Nat) = (z : Int) := by
        rw [← hzz, Int.natCast_mul, show ((k - 100 : Nat) : Int) = (k : Int) - 100 by omega]
      rw [hzz] at hb2 ih ⊢
      generalize hs1 : mu (mu s 0 52 (ey : Int)) 0 51 ((i0 : Int) + z) = s1
      have k1 : ∀ {k j : Nat}, k ≠ 0 → s1 k j = s k j := fun h => by rw [← hs1, mu_c h, mu_c h]
      have f1 : Fr FND s s1 := by rw [← hs1]; exact ((Fr.rf s).mu (by unfold FND; omega)).mu (by unfold FND; omega)
      have hz1 : Ze d 27 45 [aR 0, aI n, aI nm, aI i, l4, l5] [] s = Ze d 27 45 [aR 0, aI n, aI nm, aI ((i + 1 : Nat) : Int), aI k, l5] [] s1 := by
        have e6 : (6 * (n : Int) + i).toNat = 6 * n + i := by omega
        rw [show (((i + 1 : Nat) : Int)) = (i : Int) + 1 by omega]
        rw [x27_45]
        simp (disch := first | exact obC_0 | omega | (simp only [aN1_13, aN1_2, aN1_20, aN1_21, aN1_3, aN1_32, aN1_33, aN1_34, aN1_4, aN1_5, aN1_6, aN1_7, aN1_8, aN1_9]; omega) | (simp only [List.length_cons, List.length_nil]; omega)) only [en27, x27_0, x27_1, x27_4, x27_5, x27_6, x27_7, x27_8, x27_11, x27_12, x27_13, x27_16, x27_17, x27_18, x27_19, x27_20, x27_23, x27_24, x27_25, x27_28, x27_29, x27_30, x27_33, x27_34, x27_35, x27_38, x27_39, x27_40, x27_43, x27_44, x27_46, x27_47, x27_50, x27_51, x27_52, x27_55, x27_56, x27_59, x27_61, x27_62, x27_63, x27_64, x27_65, x27_66, x27_68, x27_69, x27_72, x27_75, x27_76, x27_79, x27_80, x27_83, x27_84, x27_86, x27_88, x27_91, x27_92, x27_95, x27_96, x27_99, x27_100, x27_101, x27_103, x27_105, x27_108, x27_110, x27_112, x27_113, x27_114, x27_117, x27_118, x27_121, x27_122, x27_125, x27_126, x27_127, x27_128, x27_129, x27_132, x27_133, x27_136, x27_137, x27_140, x27_141, x27_141i, x27_142, x27_145, x27_147, x27_149, x27_150, x27_151, x27_154, x27_155, x27_158, x27_159, x27_160, x27_161, x27_164, x27_167, x27_168, x27_171, x27_172, x27_175, x27_176, x27_180, x27_183, x27_184, x27_187, x27_189, x27_190, x27_192, x27_195, x27_196, x27_196i, x27_197, x27_200, x27_201, x27_204, x27_205, x27_208, x27_210, x27_211, x27_212, x27_213, x27_216, x27_217, x27_220, x27_222, x27_223, x27_225, x27_228, x27_230, x27_233, x27_234, x27_235, x27_236, x27_236i, x27_237, x27_240, x27_241, x27_244, x27_246, x27_247, x27_248, x27_251, x27_252, x27_253, x27_256, x27_258, x27_259, x27_262, x27_265, x27_268, x27_269, fcn_0_10, fcn_0_11, fcn_0_12, fcn_0_13, fcn_0_20, fcn_0_27, fcn_0_28, fcn_0_41, fcn_0_42, fcn_0_43, fcn_0_6, fcn_0_7, fcn_0_8, fcn_0_9, if_true, if_false, eq_self, Int.reduceEq, Int.reduceLT, Int.reduceLE, Int.reduceAdd, Int.reduceSub, Int.reduceMul, Int.reduceToNat, Nat.reduceAdd, Nat.reduceMul, Nat.reduceEqDiff, Int.toNat_natCast, wrap_id, hm1, e6, hP.1, hty, h1, h2, hey, q3, hzi, ha, mu_c, mu_i, mu_s, hs1, if_pos (show (i : Int) < ((i + m : Nat) : Int) by omega), if_neg (show ¬ (ty : Int) < 0 by omega), if_neg (show ¬ (k : Int) < 100 by omega), if_pos (show (k : Int) - 100 < w by omega)]
      obtain ⟨m', hm1', hm2', hm3'⟩ := RPath_len (RPath_pu (s' := s1) (fun k j z => FND_k f1 (by omega)) hP.2)
      have hI := ih (i + 1) s1 (aI k) l5 (RPath_pu (fun k j z => FND_k f1 (by omega)) hP.2) (by rw [← hs1, mu_s]; rfl) (by rw [← hs1, mu_i (by decide), mu_i (by decide), hf]) (Or.inr (RT_put (fun k j z => FND_k f1 (by omega)) (by rw [show s1 0 52 = ey by rw [← hs1, mu_i (by decide), mu_s]]; exact h4))) (by omega) (by omega) hbd m' hm1' hm2' hm3'
      revert hI
      split
      · rintro ⟨s2, q1, q2, q3, q4, q5, q6, q7, q8⟩
        exact ⟨s2, hz1.trans q1, q2, q3, TY_put (fun k j z => (FND_k f1 (by omega)).symm) q4, by simp only [tsz]; omega, by omega, q7, f1.tr q8⟩
      · rintro ⟨s2, q1, q2⟩
        exact ⟨s2, hz1.trans q1, f1.tr q2⟩
  | case6 k r i0 w t' f hk hkw =>
    have hm0 := hm3 _ _ rfl
    unfold RPath at hP
    unfold pbd at hbd
    obtain ⟨hbk, hbd⟩ := hbd
    have hT' := hT.resolve_left (fun z => nomatch z.2)
    obtain ⟨r1, r2, r3, r4⟩ := RT_size hT'
    obtain ⟨w', e, -⟩ | ⟨fs', e, -⟩ | ⟨w', w'', e, h1, h2, h3, h4⟩ := RT_inv hT'
    · exact (nomatch e)
    · exact (nomatch e)
    · cases e
      obtain ⟨ty, hty⟩ : ∃ ty : Nat, s 0 52 = ty := ⟨(s 0 52).toNat, by omega⟩
      rw [hty, Int.toNat_natCast] at h1 h2 h4
      refine ⟨s, ?_, Fr.rf s⟩
      have e6 : (6 * (n : Int) + i).toNat = 6 * n + i := by omega
      rw [x27_45]
      simp (disch := first | exact obC_0 | omega | (simp only [aN1_13, aN1_2, aN1_20, aN1_21, aN1_3, aN1_32, aN1_33, aN1_34, aN1_4, aN1_5, aN1_6, aN1_7, aN1_8, aN1_9]; omega) | (simp only [List.length_cons, List.length_nil]; omega)) only [en27, x27_0, x27_1, x27_4, x27_5, x27_6, x27_7, x27_8, x27_11, x27_12, x27_13, x27_16, x27_17, x27_18, x27_19, x27_20, x27_23, x27_24, x27_25, x27_28, x27_29, x27_30, x27_33, x27_34, x27_35, x27_38, x27_39, x27_40, x27_43, x27_44, x27_46, x27_47, x27_50, x27_51, x27_52, x27_55, x27_56, x27_59, x27_61, x27_62, x27_63, x27_64, x27_65, x27_66, x27_68, x27_69, x27_72, x27_75, x27_76, x27_79, x27_80, x27_83, x27_84, x27_86, x27_88, x27_91, x27_92, x27_95, x27_96, x27_99, x27_100, x27_101, x27_103, x27_105, x27_108, x27_110, x27_112, x27_113, x27_114, x27_117, x27_118, x27_121, x27_122, x27_125, x27_126, x27_127, x27_128, x27_129, x27_132, x27_133, x27_136, x27_137, x27_140, x27_141, x27_141i, x27_142, x27_145, x27_147, x27_149, x27_150, x27_151, x27_154, x27_155, x27_158, x27_159, x27_160, x27_161, x27_164, x27_167, x27_168, x27_171, x27_172, x27_175, x27_176, x27_180, x27_183, x27_184, x27_187, x27_189, x27_190, x27_192, x27_195, x27_196, x27_196i, x27_197, x27_200, x27_201, x27_204, x27_205, x27_208, x27_210, x27_211, x27_212, x27_213, x27_216, x27_217, x27_220, x27_222, x27_223, x27_225, x27_228, x27_230, x27_233, x27_234, x27_235, x27_236, x27_236i, x27_237, x27_240, x27_241, x27_244, x27_246, x27_247, x27_248, x27_251, x27_252, x27_253, x27_256, x27_258, x27_259, x27_262, x27_265, x27_268, x27_269, fcn_0_10, fcn_0_11, fcn_0_12, fcn_0_13, fcn_0_20, fcn_0_27, fcn_0_28, fcn_0_41, fcn_0_42, fcn_0_43, fcn_0_6, fcn_0_7, fcn_0_8, fcn_0_9, if_true, if_false, eq_self, Int.reduceEq, Int.reduceLT, Int.reduceLE, Int.reduceAdd, Int.reduceSub, Int.reduceMul, Int.reduceToNat, Nat.reduceAdd, Nat.reduceMul, Nat.reduceEqDiff, Int.toNat_natCast, wrap_id, hm1, e6, hP.1, hty, h1, h2, if_pos (show (i : Int) < ((i + m : Nat) : Int) by omega), if_neg (show ¬ (ty : Int) < 0 by omega), if_neg (show ¬ (k : Int) < 100 by omega), if_neg (show ¬ (k : Int) - 100 < w by omega)]
  | case7 k r i0 t f h1 h2 =>
    have hm0 := hm3 _ _ rfl
    unfold RPath at hP
    unfold pbd at hbd
    obtain ⟨hbk, hbd⟩ := hbd
    refine ⟨s, ?_, Fr.rf s⟩
    have e6 : (6 * (n : Int) + i).toNat = 6 * n + i := by omega
    rcases hT with ⟨hT, -⟩ | hT
    · rw [x27_45]
      simp (disch := first | exact obC_0 | omega | (simp only [aN1_13, aN1_2, aN1_20, aN1_21, aN1_3, aN1_32, aN1_33, aN1_34, aN1_4, aN1_5, aN1_6, aN1_7, aN1_8, aN1_9]; omega) | (simp only [List.length_cons, List.length_nil]; omega)) only [en27, x27_0, x27_1, x27_4, x27_5, x27_6, x27_7, x27_8, x27_11, x27_12, x27_13, x27_16, x27_17, x27_18, x27_19, x27_20, x27_23, x27_24, x27_25, x27_28, x27_29, x27_30, x27_33, x27_34, x27_35, x27_38, x27_39, x27_40, x27_43, x27_44, x27_46, x27_47, x27_50, x27_51, x27_52, x27_55, x27_56, x27_59, x27_61, x27_62, x27_63, x27_64, x27_65, x27_66, x27_68, x27_69, x27_72, x27_75, x27_76, x27_79, x27_80, x27_83, x27_84, x27_86, x27_88, x27_91, x27_92, x27_95, x27_96, x27_99, x27_100, x27_101, x27_103, x27_105, x27_108, x27_110, x27_112, x27_113, x27_114, x27_117, x27_118, x27_121, x27_122, x27_125, x27_126, x27_127, x27_128, x27_129, x27_132, x27_133, x27_136, x27_137, x27_140, x27_141, x27_141i, x27_142, x27_145, x27_147, x27_149, x27_150, x27_151, x27_154, x27_155, x27_158, x27_159, x27_160, x27_161, x27_164, x27_167, x27_168, x27_171, x27_172, x27_175, x27_176, x27_180, x27_183, x27_184, x27_187, x27_189, x27_190, x27_192, x27_195, x27_196, x27_196i, x27_197, x27_200, x27_201, x27_204, x27_205, x27_208, x27_210, x27_211, x27_212, x27_213, x27_216, x27_217, x27_220, x27_222, x27_223, x27_225, x27_228, x27_230, x27_233, x27_234, x27_235, x27_236, x27_236i, x27_237, x27_240, x27_241, x27_244, x27_246, x27_247, x27_248, x27_251, x27_252, x27_253, x27_256, x27_258, x27_259, x27_262, x27_265, x27_268, x27_269, fcn_0_10, fcn_0_11, fcn_0_12, fcn_0_13, fcn_0_20, fcn_0_27, fcn_0_28, fcn_0_41, fcn_0_42, fcn_0_43, fcn_0_6, fcn_0_7, fcn_0_8, fcn_0_9, if_true, if_false, eq_self, Int.reduceEq, Int.reduceLT, Int.reduceLE, Int.reduceAdd, Int.reduceSub, Int.reduceMul, Int.reduceToNat, Nat.reduceAdd, Nat.reduceMul, Nat.reduceEqDiff, Int.toNat_natCast, wrap_id, hm1, e6, hP.1, hT, if_pos (show (i : Int) < ((i + m : Nat) : Int) by omega)]
    · obtain ⟨r1, r2, r3, r4⟩ := RT_size hT
      obtain ⟨w, e, g1, -⟩ | ⟨fs', e, -⟩ | ⟨w', w'', e, -⟩ := RT_inv hT
      · obtain ⟨ty, hty⟩ : ∃ ty : Nat, s 0 52 = ty := ⟨(s 0 52).toNat, by omega⟩
        rw [hty, Int.toNat_natCast] at g1
        rw [x27_45]
        by_cases hk : (k : Int) < 100
        · simp (disch := first | exact obC_0 | omega | (simp only [aN1_13, aN1_2, aN1_20, aN1_21, aN1_3, aN1_32, aN1_33, aN1_34, aN1_4, aN1_5, aN1_6, aN1_7, aN1_8, aN1_9]; omega) | (simp only [List.length_cons, List.length_nil]; omega)) only [en27, x27_0, x27_1, x27_4, x27_5, x27_6, x27_7, x27_8, x27_11, x27_12, x27_13, x27_16, x27_17, x27_18, x27_19, x27_20, x27_23, x27_24, x27_25, x27_28, x27_29, x27_30, x27_33, x27_34, x27_35, x27_38, x27_39, x27_40, x27_43, x27_44, x27_46, x27_47, x27_50, x27_51, x27_52, x27_55, x27_56, x27_59, x27_61, x27_62, x27_63, x27_64, x27_65, x27_66, x27_68, x27_69, x27_72, x27_75, x27_76, x27_79, x27_80, x27_83, x27_84, x27_86, x27_88, x27_91, x27_92, x27_95, x27_96, x27_99, x27_100, x27_101, x27_103, x27_105, x27_108, x27_110, x27_112, x27_113, x27_114, x27_117, x27_118, x27_121, x27_122, x27_125, x27_126, x27_127, x27_128, x27_129, x27_132, x27_133, x27_136, x27_137, x27_140, x27_141, x27_141i, x27_142, x27_145, x27_147, x27_149, x27_150, x27_151, x27_154, x27_155, x27_158, x27_159, x27_160, x27_161, x27_164, x27_167, x27_168, x27_171, x27_172, x27_175, x27_176, x27_180, x27_183, x27_184, x27_187, x27_189, x27_190, x27_192, x27_195, x27_196, x27_196i, x27_197, x27_200, x27_201, x27_204, x27_205, x27_208, x27_210, x27_211, x27_212, x27_213, x27_216, x27_217, x27_220, x27_222, x27_223, x27_225, x27_228, x27_230, x27_233, x27_234, x27_235, x27_236, x27_236i, x27_237, x27_240, x27_241, x27_244, x27_246, x27_247, x27_248, x27_251, x27_252, x27_253, x27_256, x27_258, x27_259, x27_262, x27_265, x27_268, x27_269, fcn_0_10, fcn_0_11, fcn_0_12, fcn_0_13, fcn_0_20, fcn_0_27, fcn_0_28, fcn_0_41, fcn_0_42, fcn_0_43, fcn_0_6, fcn_0_7, fcn_0_8, fcn_0_9, if_true, if_false, eq_self, Int.reduceEq, Int.reduceLT, Int.reduceLE, Int.reduceAdd, Int.reduceSub, Int.reduceMul, Int.reduceToNat, Nat.reduceAdd, Nat.reduceMul, Nat.reduceEqDiff, Int.toNat_natCast, wrap_id, hm1, e6, hP.1, hty, g1, if_pos (show (i : Int) < ((i + m : Nat) : Int) by omega), if_neg (show ¬ (ty : Int) < 0 by omega), if_pos hk]
        · simp (disch := first | exact obC_0 | omega | (simp only [aN1_13, aN1_2, aN1_20, aN1_21, aN1_3, aN1_32, aN1_33, aN1_34, aN1_4, aN1_5, aN1_6, aN1_7, aN1_8, aN1_9]; omega) | (simp only [List.length_cons, List.length_nil]; omega)) only [en27, x27_0, x27_1, x27_4, x27_5, x27_6, x27_7, x27_8, x27_11, x27_12, x27_13, x27_16, x27_17, x27_18, x27_19, x27_20, x27_23, x27_24, x27_25, x27_28, x27_29, x27_30, x27_33, x27_34, x27_35, x27_38, x27_39, x27_40, x27_43, x27_44, x27_46, x27_47, x27_50, x27_51, x27_52, x27_55, x27_56, x27_59, x27_61, x27_62, x27_63, x27_64, x27_65, x27_66, x27_68, x27_69, x27_72, x27_75, x27_76, x27_79, x27_80, x27_83, x27_84, x27_86, x27_88, x27_91, x27_92, x27_95, x27_96, x27_99, x27_100, x27_101, x27_103, x27_105, x27_108, x27_110, x27_112, x27_113, x27_114, x27_117, x27_118, x27_121, x27_122, x27_125, x27_126, x27_127, x27_128, x27_129, x27_132, x27_133, x27_136, x27_137, x27_140, x27_141, x27_141i, x27_142, x27_145, x27_147, x27_149, x27_150, x27_151, x27_154, x27_155, x27_158, x27_159, x27_160, x27_161, x27_164, x27_167, x27_168, x27_171, x27_172, x27_175, x27_176, x27_180, x27_183, x27_184, x27_187, x27_189, x27_190, x27_192, x27_195, x27_196, x27_196i, x27_197, x27_200, x27_201, x27_204, x27_205, x27_208, x27_210, x27_211, x27_212, x27_213, x27_216, x27_217, x27_220, x27_222, x27_223, x27_225, x27_228, x27_230, x27_233, x27_234, x27_235, x27_236, x27_236i, x27_237, x27_240, x27_241, x27_244, x27_246, x27_247, x27_248, x27_251, x27_252, x27_253, x27_256, x27_258, x27_259, x27_262, x27_265, x27_268, x27_269, fcn_0_10, fcn_0_11, fcn_0_12, fcn_0_13, fcn_0_20, fcn_0_27, fcn_0_28, fcn_0_41, fcn_0_42, fcn_0_43, fcn_0_6, fcn_0_7, fcn_0_8, fcn_0_9, if_true, if_false, eq_self, Int.reduceEq, Int.reduceLT, Int.reduceLE, Int.reduceAdd, Int.reduceSub, Int.reduceMul, Int.reduceToNat, Nat.reduceAdd, Nat.reduceMul, Nat.reduceEqDiff, Int.toNat_natCast, wrap_id, hm1, e6, hP.1, hty, g1, if_pos (show (i : Int) < ((i + m : Nat) : Int) by omega), if_neg (show ¬ (ty : Int) < 0 by omega), if_neg hk]
      · exact absurd e (h1 _)
      · exact absurd e (h2 _ _)
  | case8 r i0 t f _ _ hr =>
    have hp : s 21 n = i := by
      unfold RPath at hP
      split at hP
      · exact absurd rfl (hr _ _)
      · exact hP.1
    refine ⟨s, ?_, ha, hf, hT, Nat.le_refl _, Nat.le_refl _, by omega, Fr.rf s⟩
    rw [x27_45]
    simp (disch := first | exact obC_0 | omega | (simp only [aN1_13, aN1_2, aN1_20, aN1_21, aN1_3, aN1_32, aN1_33, aN1_34, aN1_4, aN1_5, aN1_6, aN1_7, aN1_8, aN1_9]; omega) | (simp only [List.length_cons, List.length_nil]; omega)) only [en27, x27_0, x27_1, x27_4, x27_5, x27_6, x27_7, x27_8, x27_11, x27_12, x27_13, x27_16, x27_17, x27_18, x27_19, x27_20, x27_23, x27_24, x27_25, x27_28, x27_29, x27_30, x27_33, x27_34, x27_35, x27_38, x27_39, x27_40, x27_43, x27_44, x27_46, x27_47, x27_50, x27_51, x27_52, x27_55, x27_56, x27_59, x27_61, x27_62, x27_63, x27_64, x27_65, x27_66, x27_68, x27_69, x27_72, x27_75, x27_76, x27_79, x27_80, x27_83, x27_84, x27_86, x27_88, x27_91, x27_92, x27_95, x27_96, x27_99, x27_100, x27_101, x27_103, x27_105, x27_108, x27_110, x27_112, x27_113, x27_114, x27_117, x27_118, x27_121, x27_122, x27_125, x27_126, x27_127, x27_128, x27_129, x27_132, x27_133, x27_136, x27_137, x27_140, x27_141, x27_141i, x27_142, x27_145, x27_147, x27_149, x27_150, x27_151, x27_154, x27_155, x27_158, x27_159, x27_160, x27_161, x27_164, x27_167, x27_168, x27_171, x27_172, x27_175, x27_176, x27_180, x27_183, x27_184, x27_187, x27_189, x27_190, x27_192, x27_195, x27_196, x27_196i, x27_197, x27_200, x27_201, x27_204, x27_205, x27_208, x27_210, x27_211, x27_212, x27_213, x27_216, x27_217, x27_220, x27_222, x27_223, x27_225, x27_228, x27_230, x27_233, x27_234, x27_235, x27_236, x27_236i, x27_237, x27_240, x27_241, x27_244, x27_246, x27_247, x27_248, x27_251, x27_252, x27_253, x27_256, x27_258, x27_259, x27_262, x27_265, x27_268, x27_269, fcn_0_10, fcn_0_11, fcn_0_12, fcn_0_13, fcn_0_20, fcn_0_27, fcn_0_28, fcn_0_41, fcn_0_42, fcn_0_43, fcn_0_6, fcn_0_7, fcn_0_8, fcn_0_9, if_true, if_false, eq_self, Int.reduceEq, Int.reduceLT, Int.reduceLE, Int.reduceAdd, Int.reduceSub, Int.reduceMul, Int.reduceToNat, Nat.reduceAdd, Nat.reduceMul, Nat.reduceEqDiff, Int.toNat_natCast, wrap_id, hp, if_neg (show ¬ (i : Int) < i by omega)]
