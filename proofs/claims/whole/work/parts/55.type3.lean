theorem pTy_0 {T : Tx} {p : Nat} : pTy T 0 p = .error p := by rw [pTy]
theorem FF_T {m c o k j : Nat} (h : FF (m + 1) c o m (-1) k j) : TF m c o k j := by
  rcases h with h | h | h | h | h | h | h | h
  · exact Or.inl h
  · exact Or.inr (Or.inl ⟨h.1, h.2.1, by omega⟩)
  · exact Or.inr (Or.inr (Or.inl h))
  · exact Or.inr (Or.inr (Or.inr ⟨h.1, by omega⟩))
  · exact Or.inr (Or.inr (Or.inr ⟨Or.inr h.1, by omega⟩))
  · exact Or.inr (Or.inl ⟨by omega, by omega, by omega⟩)
  · exact Or.inr (Or.inl ⟨by omega, by omega, by omega⟩)
  · omega
theorem FFX_T {m c o k j : Nat} (h : FFX (m + 1) c o m (-1) k j) : TFX m c o k j := h.elim (fun h => Or.inl (FF_T h)) Or.inr
theorem FF_kind {m c o : Nat} : ¬ FF (m + 1) c o m (-1) 2 m := by unfold FF; omega
theorem ti_zero {d : Nat} (hd : 6 ≤ d) : TI d 0 := by
  intro o j p m c s l2 l3 hoD ho hb hat hj hp hm hc hop hmj hcj
  have hpl := sk_le (tx s) hj
  rw [hp] at hpl
  have hlen := tx_le ho
  obtain ⟨a1, a2, a3, a4⟩ := at_st ho (p : Int)
  have z1 := tt_top (d := d) (by omega) s ho hb hat hj hp l2 l3
  have z2 := tt_full (d := d) (p := p) (by omega) (mu s 0 2 p) (by rw [a4, hb]) a3 (by rw [mu_i (by decide), hop]; omega) (cA (tx s) p) l3
  rw [pTy_0]
  exact ⟨_, z1.trans z2, mu_s, by rw [mu_i (by decide), mu_s], (((Fr.rf s).mu (by unfold TFX TF; omega)).mu (by unfold TFX TF; omega)).mu (by unfold TFX TF; omega)⟩
/-- U and its number -/
theorem ti_U {d o j p m c : Nat} (hd : 6 ≤ d) (s : Mem) (l3 : AV) (ho3 : o < 3) (ho : okT s) (hb : s 0 5 = 0) (hp : p < (tx s).2) (hjp : j ≤ p) (hm : s 0 16 = m) (hc : s 0 17 = c) (hop : s 0 18 = o) (hmj : m ≤ j) (hcj : 2 * c ≤ j) :
    OT d o m c p s (Ze d 15 23 [aR 0, aI (-1), aI 85, l3] [] (mu s 0 2 (p : Int))) (if isD (cA (tx s) (sk (tx s) (p + 1))) then
        bd (pNu (tx s) 1 16 (sk (tx s) (p + 1))) fun w p2 => pVec (tx s) ((tx s).2 + 1) (tU w) p2
      else pVec (tx s) ((tx s).2 + 1) (tU 0) (sk (tx s) (p + 1))) := by
  have hlen := tx_le ho
  obtain ⟨a1, a2, a3, a4⟩ := at_st ho ((p : Int) + 1)
  have hh := t_here (d := d) (by omega) _ a2 (j := p + 1) (a3.trans (by omega)) (by rw [a1]; omega)
  rw [a1, mu_mu] at hh
  have hg := sk_ge (tx s) (p + 1)
  have hl := sk_le (tx s) (j := p + 1) (by omega)
  have hss := sk_sk (tx s) (p + 1)
  generalize sk (tx s) (p + 1) = q at *
  obtain ⟨b1, b2, b3, b4⟩ := at_st ho (q : Int)
  have hop3 : ¬ mu s 0 2 (p : Int) 0 18 = 3 := by rw [mu_i (by decide), hop]; omega
  have hc0 : cA (tx s) q = cA (tx s) q := rfl
  by_cases hD : isD (cA (tx s) q)
  · rw [if_pos hD]
    by_cases hN : okNu (tx s) 1 16 q
    · rw [pNu_ok hN, bd_ok]
      have hk := t_num_ok (d := d) (by omega) _ b2 (j := q) b3 (by rw [b1]; exact hl) (lo := 1) (hi := 16) (by rw [b1, hss]; exact hN)
      rw [b1, mu_mu, hss] at hk
      have hq1 := nE_le (tx s) hl
      have hq1' := nE_ge (tx s) q
      obtain ⟨-, -, -, g1, g2⟩ := hN
      have hvv : ∃ vv : Nat, nV (tx s) q (nE (tx s) q - q) = vv := ⟨_, (Int.toNat_of_nonneg (by omega)).symm⟩
      obtain ⟨v, hv⟩ := hvv
      rw [hv] at hk g1 g2 ⊢
      rw [Int.toNat_natCast]
      generalize nE (tx s) q = q1 at *
      generalize hs2 : mu s 0 2 (q1 : Int) = s2 at hk
      have f2 : Fr (TF m c o) s s2 := by rw [← hs2]; exact (Fr.rf s).mu (by unfold TF; omega)
      have hnt := t_newType (d := d) (by omega) s2 (n := m) (by rw [← hs2, mu_i (by decide), hm]) (by omega) 0 v (-1) 1
      have z1 := tt_U (d := d) (by omega) (mu s 0 2 (p : Int)) (mu s 0 2 (q : Int)) _ mu_s (by omega) hop3 (cA (tx s) q) v m l3 (by rw [mu_mu]; exact hh) (Or.inl ⟨hD, s2, hk, hnt⟩)
      rw [z1]
      have f3 : Fr (TF m c o) s (nType s2 m 0 v (-1) 1) := f2.tr nType_fr
      obtain ⟨x3, o3, bb3, w3⟩ := fr_tf f3 ho
      obtain ⟨k1, k2, k3, k4, k5⟩ := nType_at (s := s2) (n := m) (a := 0) (b := v) (c := -1) (e := 1)
      have q0 : ∀ {i : Nat}, i ≠ 16 → nType s2 m 0 v (-1) 1 0 i = s2 0 i := fun h => nType_0 h
      generalize nType s2 m 0 v (-1) 1 = s3 at *
      have hv1 := t_vec (d := d) (o := o) (m := m) (c := c) (p0 := p) hd ((tx s).2 + 1) (sk (tx s) q1) q1 m (m + 1) c s3 (tU v) (aI 85) (aI v) o3 (by rw [bb3, hb]) (by rw [q0 (by decide), ← hs2, mu_s]) (by rw [x3]; exact hq1) (by rw [x3]) (by rw [x3]; omega) k5 (by rw [q0 (by decide), ← hs2, mu_i (by decide), hc]) (by rw [q0 (by decide), ← hs2, mu_i (by decide), hop]) (by omega) (by omega) (by omega) (Nat.le_refl _) (by omega)
        (by unfold tU RT; rw [Int.toNat_natCast]; exact ⟨by omega, by omega, k1, k2, k4, by omega⟩)
      rw [x3] at hv1
      exact OT_tr hv1 x3 f3 (Nat.le_refl _)
    · rw [pNu_no hN, bd_er]
      obtain ⟨v, a, v0, v1, ha, hk⟩ := t_num_no (d := d) (by omega) _ b2 (by rw [b4, hb]) (j := q) b3 (by rw [b1]; exact hl) (lo := 1) (hi := 16) (by rw [b1, hss]; exact hN)
      rw [b1, mu_mu, hss] at hk
      generalize hs2 : mu (mu (mu s 0 2 (a : Int)) 0 3 (q : Int)) 0 5 1 = s2 at hk
      have f2 : Fr (TFX m c o) s s2 := by rw [← hs2]; exact (((Fr.rf s).mu (by unfold TFX TF; omega)).mu (by unfold TFX TF; omega)).mu (by unfold TFX TF; omega)
      have hnt := t_newType (d := d) (by omega) s2 (n := m) (by rw [← hs2, mu_i (by decide), mu_i (by decide), mu_i (by decide), hm]) (by omega) 0 v (-1) 1
      have z1 := tt_U (d := d) (by omega) (mu s 0 2 (p : Int)) (mu s 0 2 (q : Int)) _ mu_s (by omega) hop3 (cA (tx s) q) v m l3 (by rw [mu_mu]; exact hh) (Or.inl ⟨hD, s2, hk, hnt⟩)
      have b3 : nType s2 m 0 v (-1) 1 0 5 = 1 := by rw [nType_0 (by decide), ← hs2, mu_s]
      have w3 : nType s2 m 0 v (-1) 1 0 3 = q := by rw [nType_0 (by decide), ← hs2, mu_i (by decide), mu_s]
      exact ⟨_, z1.trans (tt_exit _ (by rw [b3]; decide) _ _ _), b3, w3, f2.tr (nType_fr.mono (fun _ _ => TF_X))⟩
  · rw [if_neg hD]
    generalize hs2 : mu s 0 2 (q : Int) = s2 at *
    have f2 : Fr (TF m c o) s s2 := by rw [← hs2]; exact (Fr.rf s).mu (by unfold TF; omega)
    have hnt := t_newType (d := d) (by omega) s2 (n := m) (by rw [← hs2, mu_i (by decide), hm]) (by omega) 0 0 (-1) 1
    have z1 := tt_U (d := d) (by omega) (mu s 0 2 (p : Int)) s2 _ mu_s (by omega) hop3 (cA (tx s) q) 0 m l3 (by rw [mu_mu]; exact hh) (Or.inr ⟨hD, rfl, hnt⟩)
    rw [z1]
    have f3 : Fr (TF m c o) s (nType s2 m 0 0 (-1) 1) := f2.tr nType_fr
    obtain ⟨x3, o3, bb3, w3⟩ := fr_tf f3 ho
    obtain ⟨k1, k2, k3, k4, k5⟩ := nType_at (s := s2) (n := m) (a := 0) (b := 0) (c := -1) (e := 1)
    have q0 : ∀ {i : Nat}, i ≠ 16 → nType s2 m 0 0 (-1) 1 0 i = s2 0 i := fun h => nType_0 h
    generalize nType s2 m 0 0 (-1) 1 = s3 at *
    have hv1 := t_vec (d := d) (o := o) (m := m) (c := c) (p0 := p) hd ((tx s).2 + 1) q q m (m + 1) c s3 (tU 0) (aI 85) (aI 0) o3 (by rw [bb3, hb]) (by rw [q0 (by decide), b3]) (by rw [x3]; exact hl) (by rw [x3, hss]) (by rw [x3]; omega) k5 (by rw [q0 (by decide), ← hs2, mu_i (by decide), hc]) (by rw [q0 (by decide), ← hs2, mu_i (by decide), hop]) (by omega) (by omega) (by omega) (Nat.le_refl _) (by omega)
      (by unfold tU RT; rw [Int.toNat_natCast]; exact ⟨by omega, by omega, k1, k2, k4, by omega⟩)
    rw [x3] at hv1
    exact OT_tr hv1 x3 f3 (Nat.le_refl _)
/-- a bundle -/
theorem ti_B {d D o j p m c : Nat} (hd : 6 ≤ d) (ihT : TI d D) (hoD : o + 1 + D = 3) (s : Mem) (l3 : AV) (ho : okT s) (hb : s 0 5 = 0) (hp : p < (tx s).2) (hjp : j ≤ p) (hm : s 0 16 = m) (hc : s 0 17 = c) (hop : s 0 18 = o) (hmj : m ≤ j) (hcj : 2 * c ≤ j) :
    OT d o m c p s (Ze d 15 23 [aR 0, aI (-1), aI 123, l3] [] (mu s 0 2 (p : Int))) (bd (pFs (tx s) (pTy (tx s) D) ((tx s).2 + 1) (sk (tx s) (p + 1))) fun fs p2 => pVec (tx s) ((tx s).2 + 1) (tB fs) p2) := by
  have hlen := tx_le ho
  generalize hs1 : mu s 0 2 ((p : Int) + 1) = s1
  have hnt := t_newType (d := d) (by omega) s1 (n := m) (by rw [← hs1, mu_i (by decide), hm]) (by omega) 1 0 (-1) 0
  obtain ⟨k1, k2, k3, k4, k5⟩ := nType_at (s := s1) (n := m) (a := 1) (b := 0) (c := -1) (e := 0)
  have q0 : ∀ {i : Nat}, i ≠ 16 → nType s1 m 1 0 (-1) 0 0 i = s1 0 i := fun h => nType_0 h
  have f2 : Fr (TF m c o) s (nType s1 m 1 0 (-1) 0) := by
    refine Fr.tr ?_ nType_fr
    rw [← hs1]
    exact (Fr.rf s).mu (by unfold TF; omega)
  generalize nType s1 m 1 0 (-1) 0 = s2 at *
  generalize hs3 : mu (mu (mu s2 10 o m) 11 o (-1)) 0 18 ((o : Int) + 1) = s3
  have f3 : Fr (TF m c o) s s3 := by
    rw [← hs3]
    exact ((f2.mu (by unfold TF; omega)).mu (by unfold TF; omega)).mu (by unfold TF; omega)
  obtain ⟨x3, o3, bb3, w3⟩ := fr_tf f3 ho
  have r0 : ∀ {i : Nat}, i ≠ 16 → i ≠ 18 → s3 0 i = s1 0 i := fun h1 h2 => by rw [← hs3, mu_i h2, mu_c (by decide), mu_c (by decide), q0 h1]
  have ts3 : s3 5 m = ((0 : Nat) : Int) := by rw [← hs3, mu_c (by decide), mu_c (by decide), mu_c (by decide), k4]; rfl
  have tk3 : s3 2 m = 1 := by rw [← hs3, mu_c (by decide), mu_c (by decide), mu_c (by decide), k1]
  have ht := t_fields (d := d) (D := D) (o := o) (t := m) hd ihT hoD ((tx s).2 + 1) (p + 1) (sk (tx s) (p + 1)) (m + 1) c 0 s3 (-1) 123 l3 o3 (by rw [bb3, hb]) (by rw [r0 (by decide) (by decide), ← hs1, mu_s]; rfl) (by rw [x3]; omega) (by rw [x3]) (by rw [x3]; omega) (by rw [← hs3, mu_i (by decide), mu_c (by decide), mu_c (by decide), k5]) (by rw [r0 (by decide) (by decide), ← hs1, mu_i (by decide), hc]) (by rw [← hs3, mu_s]; rfl) (by rw [← hs3, mu_c (by decide), mu_c (by decide), mu_s]) (by omega) (by rw [← hs3, mu_c (by decide), mu_s]) (by omega) ts3 (by omega) (by omega) (by omega)
  have op1 : s1 0 18 = o := by rw [← hs1, mu_i (by decide), hop]
  have hB := fun s4 (h : Zc d 14 [aR 0] s3 = rV s4) => tt_B (d := d) (p := p) (o := o) (by omega) (mu s 0 2 (p : Int)) s2 s4 mu_s (by omega) (by rw [mu_i (by decide), hop]) (by omega) m l3 (by rw [mu_mu, hs1]; exact hnt) (by rw [q0 (by decide), op1]) (by rw [hs3]; exact h)
  have hsg := sk_ge (tx s) (p + 1)
  rw [x3] at ht
  cases hq : pFs (tx s) (pTy (tx s) D) ((tx s).2 + 1) (sk (tx s) (p + 1)) with
  | error e =>
    rw [hq] at ht
    obtain ⟨s4, s', e0, e1, e2, e3, e4⟩ := ht
    rw [bd_er]
    exact ⟨s', (hB s4 e0).trans e1, e2, e3, (f3.mono (fun _ _ => TF_X)).tr (e4.mono (fun _ _ => FFX_T))⟩
  | ok tp =>
    obtain ⟨fs, p2⟩ := tp
    rw [hq] at ht
    obtain ⟨s4, s', m', c', j', l2, l3', e0, e1, e2, e3, e4, e5, e6, e7, e8, e9, e10, e11, ⟨e12, e13⟩, e14, e15, e16, e17, e18⟩ := ht
    rw [x3] at e7 e8
    rw [bd_ok, (hB s4 e0).trans e1]
    have F : Fr (TF m c o) s s' := f3.tr (e18.mono (fun _ _ => FF_T))
    obtain ⟨x4, o4, bb4, w4⟩ := fr_tf F ho
    have tk4 : s' 2 m = 1 := by rw [e18 _ _ FF_kind, tk3]
    rw [Nat.zero_add] at e14
    have hv1 := t_vec (d := d) (o := o) (m := m) (c := c) (p0 := p) hd ((tx s).2 + 1) p2 j' m m' c' s' (tB fs) l2 l3' o4 (by rw [bb4, hb]) e6 (by rw [x4]; exact e8) (by rw [x4]; exact e7) (by rw [x4]; have := sk_ge (tx s) j'; omega) e3 e4 e5 e10 e11 (by omega) (by omega) (by omega)
      (by
        unfold tB RT
        rw [Int.toNat_natCast]
        refine ⟨by omega, by omega, tk4, e14, e15, ?_⟩
        rw [e16 (by decide)]
        exact RT_wide (by omega) (Nat.le_refl _) (Nat.le_refl _) (Nat.le_refl _) e2)
    rw [x4] at hv1
    exact OT_tr hv1 x4 F (Nat.le_refl _)
theorem ti_all {d : Nat} (hd : 6 ≤ d) : ∀ D, TI d D := by
  intro D
  induction D with
  | zero => exact ti_zero hd
  | succ D ih =>
    intro o j p m c s l2 l3 hoD ho hb hat hj hp hm hc hop hmj hcj
    have hpl := sk_le (tx s) hj
    have hpg := sk_ge (tx s) j
    rw [hp] at hpl hpg
    have hlen := tx_le ho
    rw [tt_top (d := d) (by omega) s ho hb hat hj hp l2 l3, pTy]
    by_cases h85 : cA (tx s) p = 85
    · rw [if_pos h85, h85]
      exact ti_U hd s l3 (by omega) ho hb (cA_in (by omega)) hpg hm hc hop hmj hcj
    · rw [if_neg h85]
      by_cases h123 : cA (tx s) p = 123
      · rw [if_pos h123, h123]
        exact ti_B hd ih (by omega) s l3 ho hb (cA_in (by omega)) hpg hm hc hop hmj hcj
      · rw [if_neg h123]
        have z2 := tt_none (d := d) (p := p) (by omega) (mu s 0 2 p) (by rw [mu_i (by decide), hb]) mu_s (by rw [mu_i (by decide), hop]; omega) (cA (tx s) p) h85 h123 l3
        exact ⟨_, z2, mu_s, by rw [mu_i (by decide), mu_s], (((Fr.rf s).mu (by unfold TFX TF; omega)).mu (by unfold TFX TF; omega)).mu (by unfold TFX TF; omega)⟩
theorem t_takeType {d j p m c : Nat} (hd : 7 ≤ d) (s : Mem) (ho : okT s) (hb : s 0 5 = 0) (hat : s 0 2 = j) (hj : j ≤ (tx s).2) (hp : sk (tx s) j = p) (hm : s 0 16 = m) (hc : s 0 17 = c) (hmj : m ≤ j) (hcj : 2 * c ≤ j) :
    match pTy (tx s) 3 p with
    | .ok (t, q) => ∃ (s' : Mem) (n m' c' j' : Nat), Zc d 15 [aR 0] s = rI n s' ∧ RT s' m m' c c' true t n ∧ s' 0 16 = m' ∧ s' 0 17 = c' ∧ s' 0 2 = j' ∧ sk (tx s) j' = q ∧ j' ≤ (tx s).2 ∧ p < j' ∧ m' ≤ j' ∧ 2 * c' ≤ j' ∧ (m ≤ m' ∧ c ≤ c') ∧ Fr (TF m c 0) s s'
    | .error f => ∃ s', Zc d 15 [aR 0] s = rI 0 s' ∧ s' 0 5 = 1 ∧ s' 0 3 = f ∧ Fr (TFX m c 0) s s' := by
  obtain ⟨d, rfl⟩ : ∃ e, d = e + 1 := ⟨d - 1, by omega⟩
  have hin : Zc (d + 1) 15 [aR 0] s = Ze d 15 7 [aR 0, aI (-1), aU, aU] [] (mu s 0 18 0) := by
    simp (disch := first | exact obC_0 | omega | (simp only [aN1_10, aN1_11, aN1_5, aN1_7]; omega) | (simp only [List.length_cons, List.length_nil]; omega)) only [en15, x15_0, x15_1, x15_2, x15_5, x15_6, x15_8, x15_11, x15_14, x15_15, x15_18, x15_19, x15_22, x15_23, x15_24, x15_27, x15_28, x15_31, x15_32, x15_33, x15_36, x15_39, x15_42, x15_43, x15_45, x15_48, x15_49, x15_49i, x15_50, x15_53, x15_54, x15_55, x15_58, x15_59, x15_62, x15_65, x15_68, x15_69, x15_70, x15_72, x15_75, x15_78, x15_79, x15_80, x15_81, x15_82, x15_83, x15_84, x15_85, x15_88, x15_89, x15_92, x15_93, x15_95, x15_98, x15_99, x15_99i, x15_100, x15_103, x15_104, x15_105, x15_108, x15_109, x15_112, x15_113, x15_116, x15_117, x15_118, x15_119, x15_120, x15_121, x15_124, x15_125, x15_126, x15_129, x15_130, x15_133, x15_134, x15_135, x15_136, x15_136i, x15_137, x15_140, x15_141, x15_142, x15_145, x15_146, x15_149, x15_152, x15_153, x15_154, x15_157, x15_160, x15_163, x15_164, x15_167, x15_168, x15_169, x15_171, x15_174, x15_175, x15_175i, x15_176, x15_179, x15_180, x15_181, x15_184, x15_185, x15_186, x15_187, x15_190, x15_191, x15_192, x15_194, x15_197, x15_198, x15_201, x15_204, x15_205, x15_206, x15_207, x15_208, x15_209, x15_210, x15_213, x15_214, x15_215, x15_216, x15_218, x15_221, x15_223, x15_226, x15_227, x15_228, x15_231, x15_232, x15_233, x15_234, x15_237, x15_238, x15_241, x15_242, x15_245, x15_248, x15_249, x15_250, x15_251, x15_254, x15_255, x15_258, x15_259, x15_262, x15_263, x15_264, x15_265, x15_266, x15_267, x15_268, x15_271, x15_272, x15_275, x15_276, x15_279, x15_280, x15_281, x15_282, x15_283, x15_284, x15_285, x15_288, x15_289, x15_290, x15_291, x15_292, x15_293, x15_296, x15_297, x15_300, x15_301, x15_304, x15_305, x15_306, x15_307, x15_308, x15_310, x15_313, x15_314, x15_317, x15_318, x15_321, x15_322, x15_325, x15_326, x15_327, x15_328, x15_330, x15_331, x15_332, x15_333, x15_334, x15_336, x15_339, x15_340, x15_340i, x15_341, x15_344, x15_345, x15_346, x15_349, x15_350, x15_353, x15_356, x15_357, x15_359, x15_362, x15_363, x15_363i, x15_364, x15_367, x15_368, x15_369, x15_372, x15_373, x15_373i, x15_374, x15_377, x15_378, x15_379, x15_382, x15_383, x15_386, x15_387, x15_390, x15_391, x15_392, x15_395, x15_396, x15_397, x15_400, x15_403, x15_406, x15_407, fcn_0_11, fcn_0_14, fcn_0_15, fcn_0_9, if_true, if_false, eq_self, Int.reduceEq, Int.reduceLT, Int.reduceLE, Int.reduceAdd, Int.reduceSub, Int.reduceMul, Int.reduceToNat, Nat.reduceAdd, Nat.reduceMul, Nat.reduceEqDiff, Int.toNat_natCast, wrap_id]
  have f0 : Fr (TF m c 0) s (mu s 0 18 0) := (Fr.rf s).mu (by unfold TF; omega)
  obtain ⟨x1, o1, b1, w1⟩ := fr_tf f0 ho
  have h := ti_all (d := d) (by omega) 3 0 j p m c (mu s 0 18 0) aU aU rfl o1 (by rw [b1, hb]) (by rw [mu_i (by decide), hat]) (by rw [x1]; exact hj) (by rw [x1]; exact hp) (by rw [mu_i (by decide), hm]) (by rw [mu_i (by decide), hc]) mu_s hmj hcj
  rw [x1] at h
  have h := OT_tr h x1 f0 (Nat.le_refl _)
  rw [hin]
  generalize Ze d 15 7 [aR 0, aI (-1), aU, aU] [] (mu s 0 18 0) = Z at *
  unfold OT at h
  cases hq : pTy (tx s) 3 p with
  | error e =>
    rw [hq] at h
    exact h
  | ok tp =>
    obtain ⟨t, q⟩ := tp
    rw [hq] at h
    obtain ⟨s', n, m', c', j', l2, l3, h1, h2, h3, h4, h5, h6, h7, h8, h9, h10, h11, h12, h13, h14⟩ := h
    obtain ⟨x2, o2, b2, w2⟩ := fr_tf h14 ho
    have z1 := tt_there (n := n) (d := d) (p := q) (by omega) s' o2 (by rw [b2, hb]) h6 (by rw [x2]; exact h8) (by rw [x2]; exact h7) l2 l3
    have z2 := tt_ret (d := d) (mu s' 0 2 (q : Int)) (by rw [mu_i (by decide), h5]; rfl) (cA (tx s') q) n (by rw [x2]; exact h13) l3
    have hqg := sk_ge (tx s) j'
    have hql := sk_le (tx s) h8
    have hqs := sk_sk (tx s) j'
    rw [h7] at hqg hql hqs
    refine ⟨mu s' 0 2 (q : Int), n, m', c', q, (h1.trans z1).trans z2, RT_put (fun k j h => mu_c (by omega)) h2, by rw [mu_i (by decide), h3], by rw [mu_i (by decide), h4], mu_s, hqs, hql, by omega, by omega, by omega, h12, h14.mu (by unfold TF; omega)⟩
