theorem fr_fh {K : Nat} {a b : Mem} (h : Fr (FH K) a b) (ho : okT a) : tx b = tx a ∧ okT b ∧ b 0 5 = a 0 5 :=
  ⟨h.tx (by unfold FH; omega) (by unfold FH; omega), h.okT (by unfold FH; omega) (by unfold FH; omega) ho, h _ _ (by unfold FH; omega)⟩
theorem FH_no {K k j : Nat} (h : (k = 0 ∧ j ≠ 2 ∧ j ≠ 40) ∨ (k ≠ 0 ∧ k ≠ 25 ∧ k ≠ 26 ∧ k ≠ 27 ∧ k ≠ 28)) : ¬ FH K k j := by unfold FH; omega
theorem TE_no {N k j : Nat} (h : 25 ≤ k ∨ (1 ≤ k ∧ k ≤ 11) ∨ (k = 0 ∧ j ≠ 2 ∧ j ≠ 32)) : ¬ TE N 0 k j := by unfold TE SE; omega
theorem TF_no {M C k j : Nat} (h : 12 ≤ k ∨ (k = 0 ∧ j ≠ 2 ∧ j ≠ 16 ∧ j ≠ 17 ∧ j ≠ 18)) : ¬ TF M C 0 k j := by unfold TF; omega
theorem it_N {d K N M C p j1 n q : Nat} (hd : 8 ≤ d) (s s1 : Mem) (ho : okT s) (hb : s 0 5 = 0) (hN : s 0 32 = N) (hM : s 0 16 = M) (hC : s 0 17 = C) (hNp : N ≤ p) (hMp : M ≤ p) (hCp : 2 * C ≤ p) (hK2 : K < 120) {Z : Option Res}
    (hZ : Z = Ze d 24 116 [aR 0, aI 78, aI p, aI K] [] s1) (h1 : s1 25 K = 5 ∧ s1 26 K = p ∧ s1 27 K = n ∧ s1 28 K = 4) (hn : n < 26) (hst : s1 0 40 = ((K + 1 : Nat) : Int)) (hat : s1 0 2 = j1) (hq : sk (tx s) j1 = q) (hj : j1 ≤ (tx s).2) (hj3 : p + 3 ≤ j1) (F1 : Fr (FH K) s s1) :
    OI K N M C p s Z (bd (pEx (tx s) 6 q) fun e p3 => bd (pTk (tx s) 59 p3) fun _ p4 => .ok ((5, p, n, 4, tNil, e), p4)) := by
  have hlen := tx_le ho
  obtain ⟨x1, o1, b1⟩ := fr_fh F1 ho
  rw [hb] at b1
  have P1 : Fr (PF K N M C) s s1 := F1.mono (fun _ _ => FH_PF)
  have hE := t_takeExpression (d := d) (p := q) hd s1 o1 b1 hat (by rw [x1]; exact hj) (by rw [x1]; exact hq) (n := N) (by rw [F1 _ _ (FH_no (Or.inl (by decide))), hN]) (by omega)
  rw [x1] at hE
  cases hx : pEx (tx s) 6 q with
  | error f =>
    rw [hx] at hE
    rw [bd_er]
    obtain ⟨s2, e1, e2, e3, e4⟩ := hE
    refine ⟨mu s2 29 K 0, ?_, by rw [mu_c (by decide), e2], by rw [mu_c (by decide), e3], ((P1.mono (fun _ _ => PF_X)).tr (e4.mono (fun _ _ => TX_PF))).mu (Or.inl (Or.inr (Or.inr (Or.inr (Or.inr (Or.inr (Or.inr (Or.inr ⟨by decide, by decide, Nat.le_refl _⟩))))))))⟩
    rw [hZ]
    simp (disch := first | exact obC_0 | omega | (simp only [aN1_27, aN1_28, aN1_29, aN1_30]; omega) | (simp only [List.length_cons, List.length_nil]; omega)) only [en24, x24_0, x24_1, x24_1i, x24_2, x24_5, x24_6, x24_7, x24_10, x24_11, x24_12, x24_14, x24_17, x24_18, x24_21, x24_22, x24_23, x24_26, x24_27, x24_28, x24_31, x24_32, x24_33, x24_35, x24_38, x24_39, x24_42, x24_43, x24_45, x24_48, x24_49, x24_52, x24_53, x24_55, x24_58, x24_59, x24_62, x24_63, x24_65, x24_68, x24_69, x24_72, x24_73, x24_74, x24_75, x24_78, x24_79, x24_80, x24_83, x24_84, x24_85, x24_88, x24_91, x24_92, x24_93, x24_95, x24_98, x24_100, x24_103, x24_105, x24_108, x24_109, x24_112, x24_115, x24_116, x24_117, x24_119, x24_122, x24_123, x24_126, x24_127, x24_128, x24_131, x24_132, x24_135, x24_136, x24_139, x24_140, x24_141, x24_144, x24_145, x24_146, x24_149, x24_152, x24_153, x24_155, x24_158, fcn_0_35, fcn_0_36, fcn_0_37, fcn_0_38, if_true, if_false, eq_self, Int.reduceEq, Int.reduceLT, Int.reduceLE, Int.reduceAdd, Int.reduceSub, Int.reduceMul, Int.reduceToNat, Nat.reduceAdd, Nat.reduceMul, Nat.reduceEqDiff, Int.toNat_natCast, wrap_id, e1, zcI_r, mu_c, e2]
  | ok ep =>
    obtain ⟨e, p3⟩ := ep
    rw [hx] at hE
    rw [bd_ok]
    obtain ⟨s2, j2, e1, e2, e3, e4, e5, e6, e7, e8, F2⟩ := hE
    obtain ⟨x2, o2, b2, w2⟩ := fr_te F2 o1
    rw [x1] at x2
    rw [b1] at b2
    generalize hs3 : mu s2 29 K (N : Int) = s3
    have G3 : ∀ k j, k ≠ 29 → s3 k j = s2 k j := fun k j h => by rw [← hs3, mu_c h]
    have r3 : s3 29 K = N := by rw [← hs3, mu_s]
    have x3 : tx s3 = tx s := by rw [← hs3]; exact (tx_mc (k := 29) (by decide)).trans x2
    have o3 : okT s3 := by rw [← hs3]; exact okT_mc (k := 29) (by decide) o2
    have P3 : Fr (PF K N M C) s s3 := by
      rw [← hs3]
      exact (P1.tr (F2.mono (fun _ _ => TE_PF))).mu (Or.inr (Or.inr (Or.inr (Or.inr (Or.inr (Or.inr (Or.inr ⟨by decide, by decide, Nat.le_refl _⟩)))))))
    have hz : Z = Ze d 24 145 [aR 0, aI 78, aI p, aI K] [] s3 := by
      rw [hZ]
      simp (disch := first | exact obC_0 | omega | (simp only [aN1_27, aN1_28, aN1_29, aN1_30]; omega) | (simp only [List.length_cons, List.length_nil]; omega)) only [en24, x24_0, x24_1, x24_1i, x24_2, x24_5, x24_6, x24_7, x24_10, x24_11, x24_12, x24_14, x24_17, x24_18, x24_21, x24_22, x24_23, x24_26, x24_27, x24_28, x24_31, x24_32, x24_33, x24_35, x24_38, x24_39, x24_42, x24_43, x24_45, x24_48, x24_49, x24_52, x24_53, x24_55, x24_58, x24_59, x24_62, x24_63, x24_65, x24_68, x24_69, x24_72, x24_73, x24_74, x24_75, x24_78, x24_79, x24_80, x24_83, x24_84, x24_85, x24_88, x24_91, x24_92, x24_93, x24_95, x24_98, x24_100, x24_103, x24_105, x24_108, x24_109, x24_112, x24_115, x24_116, x24_117, x24_119, x24_122, x24_123, x24_126, x24_127, x24_128, x24_131, x24_132, x24_135, x24_136, x24_139, x24_140, x24_141, x24_144, x24_146, x24_149, x24_152, x24_153, x24_155, x24_158, fcn_0_35, fcn_0_36, fcn_0_37, fcn_0_38, if_true, if_false, eq_self, Int.reduceEq, Int.reduceLT, Int.reduceLE, Int.reduceAdd, Int.reduceSub, Int.reduceMul, Int.reduceToNat, Nat.reduceAdd, Nat.reduceMul, Nat.reduceEqDiff, Int.toNat_natCast, wrap_id, e1, zcI_r, hs3]
    have R3 : RE s3 e N := RE_put e2 ⟨fun k j hk _ _ => G3 _ _ (by omega), fun j _ _ => G3 _ _ (by decide)⟩
    have g3 := sk_ge (tx s) j2
    have l3 := sk_le (tx s) e6
    have ss3 := sk_sk (tx s) j2
    have at3 : s3 0 2 = j2 := by rw [G3 _ _ (by decide), e4]
    have b3 : s3 0 5 = 0 := by rw [G3 _ _ (by decide), b2]
    rw [e5] at g3 l3 ss3
    have hgq := sk_ge (tx s) j1
    rw [hq] at hgq
    by_cases h59 : cA (tx s) p3 = 59
    · rw [pTk_ok h59, bd_ok]
      have he := t_exp_ok (d := d) (by omega) s3 o3 at3 (by rw [x3]; exact e6) (c := 59) (by decide) (by rw [x3, e5]; exact h59)
      rw [x3, e5] at he
      have hp3 : p3 < (tx s).2 := cA_in (by omega)
      refine ⟨mu s3 0 2 ((p3 : Int) + 1), N + esz e, M, C, p3 + 1, ?_, ?_, ?_, ?_, ?_, ?_, by rw [mu_s]; rfl, rfl, by omega, by omega, by omega, by omega, by omega, ⟨rfl, Nat.le_refl _, Nat.le_refl _⟩, ?_, P3.mu (Or.inl ⟨rfl, Or.inl rfl⟩)⟩
      · rw [hz]
        simp (disch := first | exact obC_0 | omega | (simp only [aN1_27, aN1_28, aN1_29, aN1_30]; omega) | (simp only [List.length_cons, List.length_nil]; omega)) only [en24, x24_0, x24_1, x24_1i, x24_2, x24_5, x24_6, x24_7, x24_10, x24_11, x24_12, x24_14, x24_17, x24_18, x24_21, x24_22, x24_23, x24_26, x24_27, x24_28, x24_31, x24_32, x24_33, x24_35, x24_38, x24_39, x24_42, x24_43, x24_45, x24_48, x24_49, x24_52, x24_53, x24_55, x24_58, x24_59, x24_62, x24_63, x24_65, x24_68, x24_69, x24_72, x24_73, x24_74, x24_75, x24_78, x24_79, x24_80, x24_83, x24_84, x24_85, x24_88, x24_91, x24_92, x24_93, x24_95, x24_98, x24_100, x24_103, x24_105, x24_108, x24_109, x24_112, x24_115, x24_116, x24_117, x24_119, x24_122, x24_123, x24_126, x24_127, x24_128, x24_131, x24_132, x24_135, x24_136, x24_139, x24_140, x24_141, x24_144, x24_145, x24_146, x24_149, x24_152, x24_153, x24_155, x24_158, fcn_0_35, fcn_0_36, fcn_0_37, fcn_0_38, if_true, if_false, eq_self, Int.reduceEq, Int.reduceLT, Int.reduceLE, Int.reduceAdd, Int.reduceSub, Int.reduceMul, Int.reduceToNat, Nat.reduceAdd, Nat.reduceMul, Nat.reduceEqDiff, Int.toNat_natCast, wrap_id, b3, he, zcV_r]
      · refine ⟨?_, ?_, Or.inr (Or.inr (Or.inr (Or.inr (Or.inr ⟨rfl, ?_, hn, ?_, rfl, N, ?_, Nat.le_refl _, ?_, Nat.le_refl _⟩))))⟩
        · rw [mu_c (by decide), G3 _ _ (by decide), F2 _ _ (TE_no (Or.inl (by decide)))]; exact h1.1
        · rw [mu_c (by decide), G3 _ _ (by decide), F2 _ _ (TE_no (Or.inl (by decide)))]; exact h1.2.1
        · rw [mu_c (by decide), G3 _ _ (by decide), F2 _ _ (TE_no (Or.inl (by decide)))]; exact h1.2.2.1
        · rw [mu_c (by decide), G3 _ _ (by decide), F2 _ _ (TE_no (Or.inl (by decide)))]; exact h1.2.2.2
        · rw [mu_c (by decide), r3]
        · exact RE_put R3 ⟨fun k j hk _ _ => mu_c (by omega), fun j _ _ => mu_c (by decide)⟩
      · rw [mu_i (by decide), G3 _ _ (by decide), F2 _ _ (TE_no (Or.inr (Or.inr (by decide)))), hst]
      · rw [mu_i (by decide), G3 _ _ (by decide), e3]
      · rw [mu_i (by decide), G3 _ _ (by decide), F2 _ _ (TE_no (Or.inr (Or.inr (by decide)))), F1 _ _ (FH_no (Or.inl (by decide))), hM]
      · rw [mu_i (by decide), G3 _ _ (by decide), F2 _ _ (TE_no (Or.inr (Or.inr (by decide)))), F1 _ _ (FH_no (Or.inl (by decide))), hC]
      · intro j
        rw [mu_c (by decide), G3 _ _ (by decide), F2 _ _ (TE_no (Or.inl (by decide))), F1 _ _ (FH_no (Or.inr (by decide)))]
    · rw [pTk_no h59, bd_er]
      have he := t_exp_no (d := d) (by omega) s3 o3 b3 at3 (by rw [x3]; exact e6) (c := 59) (by decide) (by rw [x3, e5]; exact h59)
      rw [x3, e5] at he
      refine ⟨mu (mu (mu s3 0 2 (p3 : Int)) 0 3 (p3 : Int)) 0 5 1, ?_, mu_s, by rw [mu_i (by decide), mu_s], (((P3.mono (fun _ _ => PF_X)).mu (Or.inl (Or.inl ⟨rfl, Or.inl rfl⟩))).mu (Or.inr (by decide))).mu (Or.inr (by decide))⟩
      rw [hz]
      simp (disch := first | exact obC_0 | omega | (simp only [aN1_27, aN1_28, aN1_29, aN1_30]; omega) | (simp only [List.length_cons, List.length_nil]; omega)) only [en24, x24_0, x24_1, x24_1i, x24_2, x24_5, x24_6, x24_7, x24_10, x24_11, x24_12, x24_14, x24_17, x24_18, x24_21, x24_22, x24_23, x24_26, x24_27, x24_28, x24_31, x24_32, x24_33, x24_35, x24_38, x24_39, x24_42, x24_43, x24_45, x24_48, x24_49, x24_52, x24_53, x24_55, x24_58, x24_59, x24_62, x24_63, x24_65, x24_68, x24_69, x24_72, x24_73, x24_74, x24_75, x24_78, x24_79, x24_80, x24_83, x24_84, x24_85, x24_88, x24_91, x24_92, x24_93, x24_95, x24_98, x24_100, x24_103, x24_105, x24_108, x24_109, x24_112, x24_115, x24_116, x24_117, x24_119, x24_122, x24_123, x24_126, x24_127, x24_128, x24_131, x24_132, x24_135, x24_136, x24_139, x24_140, x24_141, x24_144, x24_145, x24_146, x24_149, x24_152, x24_153, x24_155, x24_158, fcn_0_35, fcn_0_36, fcn_0_37, fcn_0_38, if_true, if_false, eq_self, Int.reduceEq, Int.reduceLT, Int.reduceLE, Int.reduceAdd, Int.reduceSub, Int.reduceMul, Int.reduceToNat, Nat.reduceAdd, Nat.reduceMul, Nat.reduceEqDiff, Int.toNat_natCast, wrap_id, b3, he, zcV_r]
theorem it_T {d K N M C p j1 n q : Nat} {c : Int} {so : Nat} (hd : 8 ≤ d) (hc : c ≠ 78) (s s1 : Mem) (ho : okT s) (hb : s 0 5 = 0) (hN : s 0 32 = N) (hM : s 0 16 = M) (hC : s 0 17 = C) (hNp : N ≤ p) (hMp : M ≤ p) (hCp : 2 * C ≤ p) (hK2 : K < 120) {Z : Option Res}
    (hZ : Z = Ze d 24 116 [aR 0, aI c, aI p, aI K] [] s1) (h1 : s1 25 K = 4 ∧ s1 26 K = p ∧ s1 27 K = n ∧ s1 28 K = so) (hso : so < 4) (hn : n < 26) (hst : s1 0 40 = ((K + 1 : Nat) : Int)) (hat : s1 0 2 = j1) (hq : sk (tx s) j1 = q) (hj : j1 ≤ (tx s).2) (hj3 : p + 3 ≤ j1) (F1 : Fr (FH K) s s1) :
    OI K N M C p s Z (bd (pTy (tx s) 3 q) fun t p3 => bd (pTk (tx s) 59 p3) fun _ p4 => .ok ((4, p, n, so, tNil, t), p4)) := by
  have hlen := tx_le ho
  obtain ⟨x1, o1, b1⟩ := fr_fh F1 ho
  rw [hb] at b1
  have P1 : Fr (PF K N M C) s s1 := F1.mono (fun _ _ => FH_PF)
  have hE := t_takeType (d := d) (p := q) (by omega) s1 o1 b1 hat (by rw [x1]; exact hj) (by rw [x1]; exact hq) (m := M) (c := C) (by rw [F1 _ _ (FH_no (Or.inl (by decide))), hM]) (by rw [F1 _ _ (FH_no (Or.inl (by decide))), hC]) (by omega) (by omega)
  rw [x1] at hE
  cases hx : pTy (tx s) 3 q with
  | error f =>
    rw [hx] at hE
    rw [bd_er]
    obtain ⟨s2, e1, e2, e3, e4⟩ := hE
    refine ⟨mu s2 30 K 0, ?_, by rw [mu_c (by decide), e2], by rw [mu_c (by decide), e3], ((P1.mono (fun _ _ => PF_X)).tr (e4.mono (fun _ _ => TFX_PF))).mu (Or.inl (Or.inr (Or.inr (Or.inr (Or.inr (Or.inr (Or.inr (Or.inr ⟨by decide, by decide, Nat.le_refl _⟩))))))))⟩
    rw [hZ]
    simp (disch := first | exact obC_0 | omega | (simp only [aN1_27, aN1_28, aN1_29, aN1_30]; omega) | (simp only [List.length_cons, List.length_nil]; omega)) only [en24, x24_0, x24_1, x24_1i, x24_2, x24_5, x24_6, x24_7, x24_10, x24_11, x24_12, x24_14, x24_17, x24_18, x24_21, x24_22, x24_23, x24_26, x24_27, x24_28, x24_31, x24_32, x24_33, x24_35, x24_38, x24_39, x24_42, x24_43, x24_45, x24_48, x24_49, x24_52, x24_53, x24_55, x24_58, x24_59, x24_62, x24_63, x24_65, x24_68, x24_69, x24_72, x24_73, x24_74, x24_75, x24_78, x24_79, x24_80, x24_83, x24_84, x24_85, x24_88, x24_91, x24_92, x24_93, x24_95, x24_98, x24_100, x24_103, x24_105, x24_108, x24_109, x24_112, x24_115, x24_116, x24_117, x24_119, x24_122, x24_123, x24_126, x24_127, x24_128, x24_131, x24_132, x24_135, x24_136, x24_139, x24_140, x24_141, x24_144, x24_145, x24_146, x24_149, x24_152, x24_153, x24_155, x24_158, fcn_0_35, fcn_0_36, fcn_0_37, fcn_0_38, if_true, if_false, eq_self, Int.reduceEq, Int.reduceLT, Int.reduceLE, Int.reduceAdd, Int.reduceSub, Int.reduceMul, Int.reduceToNat, Nat.reduceAdd, Nat.reduceMul, Nat.reduceEqDiff, Int.toNat_natCast, wrap_id, if_neg hc, e1, zcI_r, mu_c, e2]
  | ok ep =>
    obtain ⟨t, p3⟩ := ep
    rw [hx] at hE
    rw [bd_ok]
    obtain ⟨s2, m, m', c', j2, e1, e2, e3, e4, e5, e6, e7, e8, e9, e10, ⟨e11, e12⟩, F2⟩ := hE
    obtain ⟨x2, o2, b2, w2⟩ := fr_tf F2 o1
    rw [x1] at x2
    rw [b1] at b2
    generalize hs3 : mu s2 30 K (m : Int) = s3
    have G3 : ∀ k j, k ≠ 30 → s3 k j = s2 k j := fun k j h => by rw [← hs3, mu_c h]
    have r3 : s3 30 K = m := by rw [← hs3, mu_s]
    have x3 : tx s3 = tx s := by rw [← hs3]; exact (tx_mc (k := 30) (by decide)).trans x2
    have o3 : okT s3 := by rw [← hs3]; exact okT_mc (k := 30) (by decide) o2
    have P3 : Fr (PF K N M C) s s3 := by
      rw [← hs3]
      exact (P1.tr (F2.mono (fun _ _ => TF_PF))).mu (Or.inr (Or.inr (Or.inr (Or.inr (Or.inr (Or.inr (Or.inr ⟨by decide, by decide, Nat.le_refl _⟩)))))))
    have hz : Z = Ze d 24 145 [aR 0, aI c, aI p, aI K] [] s3 := by
      rw [hZ]
      simp (disch := first | exact obC_0 | omega | (simp only [aN1_27, aN1_28, aN1_29, aN1_30]; omega) | (simp only [List.length_cons, List.length_nil]; omega)) only [en24, x24_0, x24_1, x24_1i, x24_2, x24_5, x24_6, x24_7, x24_10, x24_11, x24_12, x24_14, x24_17, x24_18, x24_21, x24_22, x24_23, x24_26, x24_27, x24_28, x24_31, x24_32, x24_33, x24_35, x24_38, x24_39, x24_42, x24_43, x24_45, x24_48, x24_49, x24_52, x24_53, x24_55, x24_58, x24_59, x24_62, x24_63, x24_65, x24_68, x24_69, x24_72, x24_73, x24_74, x24_75, x24_78, x24_79, x24_80, x24_83, x24_84, x24_85, x24_88, x24_91, x24_92, x24_93, x24_95, x24_98, x24_100, x24_103, x24_105, x24_108, x24_109, x24_112, x24_115, x24_116, x24_117, x24_119, x24_122, x24_123, x24_126, x24_127, x24_128, x24_131, x24_132, x24_135, x24_136, x24_139, x24_140, x24_141, x24_144, x24_146, x24_149, x24_152, x24_153, x24_155, x24_158, fcn_0_35, fcn_0_36, fcn_0_37, fcn_0_38, if_true, if_false, eq_self, Int.reduceEq, Int.reduceLT, Int.reduceLE, Int.reduceAdd, Int.reduceSub, Int.reduceMul, Int.reduceToNat, Nat.reduceAdd, Nat.reduceMul, Nat.reduceEqDiff, Int.toNat_natCast, wrap_id, if_neg hc, e1, zcI_r, hs3]
    have R3 : RT s3 0 m' 0 c' true t m := RT_wide (Nat.zero_le _) (Nat.le_refl _) (Nat.zero_le _) (Nat.le_refl _) (RT_put (fun k j h => G3 _ _ (by omega)) e2)
    have g3 := sk_ge (tx s) j2
    have l3 := sk_le (tx s) e7
    rw [e6] at g3 l3
    have at3 : s3 0 2 = j2 := by rw [G3 _ _ (by decide), e5]
    have b3 : s3 0 5 = 0 := by rw [G3 _ _ (by decide), b2]
    have hgq := sk_ge (tx s) j1
    rw [hq] at hgq
    by_cases h59 : cA (tx s) p3 = 59
    · rw [pTk_ok h59, bd_ok]
      have he := t_exp_ok (d := d) (by omega) s3 o3 at3 (by rw [x3]; exact e7) (c := 59) (by decide) (by rw [x3, e6]; exact h59)
      rw [x3, e6] at he
      have hp3 : p3 < (tx s).2 := cA_in (by omega)
      refine ⟨mu s3 0 2 ((p3 : Int) + 1), N, m', c', p3 + 1, ?_, ?_, ?_, ?_, ?_, ?_, by rw [mu_s]; rfl, rfl, by omega, by omega, by omega, by omega, by omega, ⟨rfl, e11, e12⟩, ?_, P3.mu (Or.inl ⟨rfl, Or.inl rfl⟩)⟩
      · rw [hz]
        simp (disch := first | exact obC_0 | omega | (simp only [aN1_27, aN1_28, aN1_29, aN1_30]; omega) | (simp only [List.length_cons, List.length_nil]; omega)) only [en24, x24_0, x24_1, x24_1i, x24_2, x24_5, x24_6, x24_7, x24_10, x24_11, x24_12, x24_14, x24_17, x24_18, x24_21, x24_22, x24_23, x24_26, x24_27, x24_28, x24_31, x24_32, x24_33, x24_35, x24_38, x24_39, x24_42, x24_43, x24_45, x24_48, x24_49, x24_52, x24_53, x24_55, x24_58, x24_59, x24_62, x24_63, x24_65, x24_68, x24_69, x24_72, x24_73, x24_74, x24_75, x24_78, x24_79, x24_80, x24_83, x24_84, x24_85, x24_88, x24_91, x24_92, x24_93, x24_95, x24_98, x24_100, x24_103, x24_105, x24_108, x24_109, x24_112, x24_115, x24_116, x24_117, x24_119, x24_122, x24_123, x24_126, x24_127, x24_128, x24_131, x24_132, x24_135, x24_136, x24_139, x24_140, x24_141, x24_144, x24_145, x24_146, x24_149, x24_152, x24_153, x24_155, x24_158, fcn_0_35, fcn_0_36, fcn_0_37, fcn_0_38, if_true, if_false, eq_self, Int.reduceEq, Int.reduceLT, Int.reduceLE, Int.reduceAdd, Int.reduceSub, Int.reduceMul, Int.reduceToNat, Nat.reduceAdd, Nat.reduceMul, Nat.reduceEqDiff, Int.toNat_natCast, wrap_id, b3, he, zcV_r]
      · refine ⟨?_, ?_, Or.inr (Or.inr (Or.inr (Or.inr (Or.inl ⟨rfl, ?_, hn, ?_, hso, m, ?_, ?_⟩))))⟩
        · rw [mu_c (by decide), G3 _ _ (by decide), F2 _ _ (TF_no (Or.inl (by decide)))]; exact h1.1
        · rw [mu_c (by decide), G3 _ _ (by decide), F2 _ _ (TF_no (Or.inl (by decide)))]; exact h1.2.1
        · rw [mu_c (by decide), G3 _ _ (by decide), F2 _ _ (TF_no (Or.inl (by decide)))]; exact h1.2.2.1
        · rw [mu_c (by decide), G3 _ _ (by decide), F2 _ _ (TF_no (Or.inl (by decide)))]; exact h1.2.2.2
        · rw [mu_c (by decide), r3]
        · exact RT_put (fun k j h => mu_c (by omega)) R3
      · rw [mu_i (by decide), G3 _ _ (by decide), F2 _ _ (TF_no (Or.inr (by decide))), hst]
      · rw [mu_i (by decide), G3 _ _ (by decide), F2 _ _ (TF_no (Or.inr (by decide))), F1 _ _ (FH_no (Or.inl (by decide))), hN]
      · rw [mu_i (by decide), G3 _ _ (by decide), e3]
      · rw [mu_i (by decide), G3 _ _ (by decide), e4]
      · intro j
        rw [mu_c (by decide), G3 _ _ (by decide), F2 _ _ (TF_no (Or.inl (by decide))), F1 _ _ (FH_no (Or.inr (by decide)))]
    · rw [pTk_no h59, bd_er]
      have he := t_exp_no (d := d) (by omega) s3 o3 b3 at3 (by rw [x3]; exact e7) (c := 59) (by decide) (by rw [x3, e6]; exact h59)
      rw [x3, e6] at he
      refine ⟨mu (mu (mu s3 0 2 (p3 : Int)) 0 3 (p3 : Int)) 0 5 1, ?_, mu_s, by rw [mu_i (by decide), mu_s], (((P3.mono (fun _ _ => PF_X)).mu (Or.inl (Or.inl ⟨rfl, Or.inl rfl⟩))).mu (Or.inr (by decide))).mu (Or.inr (by decide))⟩
      rw [hz]
      simp (disch := first | exact obC_0 | omega | (simp only [aN1_27, aN1_28, aN1_29, aN1_30]; omega) | (simp only [List.length_cons, List.length_nil]; omega)) only [en24, x24_0, x24_1, x24_1i, x24_2, x24_5, x24_6, x24_7, x24_10, x24_11, x24_12, x24_14, x24_17, x24_18, x24_21, x24_22, x24_23, x24_26, x24_27, x24_28, x24_31, x24_32, x24_33, x24_35, x24_38, x24_39, x24_42, x24_43, x24_45, x24_48, x24_49, x24_52, x24_53, x24_55, x24_58, x24_59, x24_62, x24_63, x24_65, x24_68, x24_69, x24_72, x24_73, x24_74, x24_75, x24_78, x24_79, x24_80, x24_83, x24_84, x24_85, x24_88, x24_91, x24_92, x24_93, x24_95, x24_98, x24_100, x24_103, x24_105, x24_108, x24_109, x24_112, x24_115, x24_116, x24_117, x24_119, x24_122, x24_123, x24_126, x24_127, x24_128, x24_131, x24_132, x24_135, x24_136, x24_139, x24_140, x24_141, x24_144, x24_145, x24_146, x24_149, x24_152, x24_153, x24_155, x24_158, fcn_0_35, fcn_0_36, fcn_0_37, fcn_0_38, if_true, if_false, eq_self, Int.reduceEq, Int.reduceLT, Int.reduceLE, Int.reduceAdd, Int.reduceSub, Int.reduceMul, Int.reduceToNat, Nat.reduceAdd, Nat.reduceMul, Nat.reduceEqDiff, Int.toNat_natCast, wrap_id, b3, he, zcV_r]
theorem t_item {d K N M C p : Nat} {c : Int} (hd : 9 ≤ d) (s : Mem) (ho : okT s) (hb : s 0 5 = 0) (hat : s 0 2 = p) (hcc : cA (tx s) p = c) (hc : c = 73 ∨ c = 79 ∨ c = 87 ∨ c = 82 ∨ c = 78) (hN : s 0 32 = N) (hM : s 0 16 = M) (hC : s 0 17 = C) (hK : s 0 40 = K) (hNp : N ≤ p) (hMp : M ≤ p) (hCp : 2 * C ≤ p) (hK2 : K < 120) :
    OI K N M C p s (Zc d 24 [aR 0, aI c, aI p] s) (pItem (tx s) p) := by
  obtain ⟨d, rfl⟩ : ∃ e, d = e + 1 := ⟨d - 1, by omega⟩
  have hp : p < (tx s).2 := cA_in (by omega)
  rw [pItem_h, hcc]
  by_cases h78 : c = 78
  · rw [if_pos h78]
    subst h78
    have h := it_head (d := d) (by omega) (c := 78) (x := 61) (o := 5) (so := 4) (Or.inl ⟨rfl, rfl, rfl, rfl⟩) s ho hb hat hp hK hK2
    cases hx : pIH (tx s) 61 p with
    | error f =>
      rw [hx] at h
      rw [bd_er]
      obtain ⟨s', h1, h2, h3, h4⟩ := h
      exact ⟨s', h1, h2, h3, h4.mono (fun _ _ => FHX_PF)⟩
    | ok nq =>
      obtain ⟨n, q⟩ := nq
      rw [hx] at h
      rw [bd_ok]
      obtain ⟨s1, j1, h1, h2, h3, h4, h5, h6, h7, h8, h9⟩ := h
      exact it_N (by omega) s s1 ho hb hN hM hC hNp hMp hCp hK2 h1 h2 h3 h4 h5 h6 h7 h8 h9
  · rw [if_neg h78]
    have hso : ∃ so : Nat, so < 4 ∧ itK c = so ∧ (c = 78 ∧ (58 : Int) = 61 ∧ (4 : Int) = 5 ∧ (so : Int) = 4 ∨ c = 73 ∧ (58 : Int) = 58 ∧ (4 : Int) = 4 ∧ (so : Int) = 0 ∨ c = 79 ∧ (58 : Int) = 58 ∧ (4 : Int) = 4 ∧ (so : Int) = 1 ∨ c = 87 ∧ (58 : Int) = 58 ∧ (4 : Int) = 4 ∧ (so : Int) = 2 ∨ c = 82 ∧ (58 : Int) = 58 ∧ (4 : Int) = 4 ∧ (so : Int) = 3) := by
      rcases hc with rfl | rfl | rfl | rfl | rfl
      · exact ⟨0, by decide, rfl, by omega⟩
      · exact ⟨1, by decide, rfl, by omega⟩
      · exact ⟨2, by decide, rfl, by omega⟩
      · exact ⟨3, by decide, rfl, by omega⟩
      · exact absurd rfl h78
    obtain ⟨so, hso4, hso, hcs⟩ := hso
    rw [hso]
    have h := it_head (d := d) (by omega) hcs s ho hb hat hp hK hK2
    cases hx : pIH (tx s) 58 p with
    | error f =>
      rw [hx] at h
      rw [bd_er]
      obtain ⟨s', h1, h2, h3, h4⟩ := h
      exact ⟨s', h1, h2, h3, h4.mono (fun _ _ => FHX_PF)⟩
    | ok nq =>
      obtain ⟨n, q⟩ := nq
      rw [hx] at h
      rw [bd_ok]
      obtain ⟨s1, j1, h1, h2, h3, h4, h5, h6, h7, h8, h9⟩ := h
      exact it_T (by omega) h78 s s1 ho hb hN hM hC hNp hMp hCp hK2 h1 h2 hso4 h3 h4 h5 h6 h7 h8 h9
