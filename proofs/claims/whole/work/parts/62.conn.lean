theorem nStep_at {s : Mem} {K : Nat} {o p : Int} : nStep s K o p 25 K = o ∧ nStep s K o p 26 K = p ∧ nStep s K o p 0 40 = ((K + 1 : Nat) : Int) := by
  unfold nStep
  exact ⟨by rw [mu_c (by decide), mu_c (by decide), mu_s], by rw [mu_c (by decide), mu_s], by rw [mu_s]; rfl⟩
theorem nStep_fr {s : Mem} {K : Nat} {o p : Int} : Fr (FH K) s (nStep s K o p) := by
  unfold nStep
  exact (((Fr.rf s).mu (by unfold FH; omega)).mu (by unfold FH; omega)).mu (by unfold FH; omega)
theorem nStep_0 {s : Mem} {K : Nat} {o p : Int} {j : Nat} (h : j ≠ 40) : nStep s K o p 0 j = s 0 j := by
  unfold nStep
  rw [mu_i h, mu_c (by decide), mu_c (by decide)]
theorem pAr_ok {T : Tx} {p : Nat} (h : cA T p = 60 ∧ cA T (p + 1) = 61) : pAr T p = .ok ((), sk T (p + 2)) := if_pos h
theorem pAr_no {T : Tx} {p : Nat} (h : ¬ (cA T p = 60 ∧ cA T (p + 1) = 61)) : pAr T p = .error p := if_neg h
theorem cn_low {n0 k j : Nat} (h : j < n0) (hk : 12 ≤ k ∧ k ≤ 18 ∨ k = 21) : ¬ TE n0 0 k j := by unfold TE SE; omega
theorem cn_lowp {n0 j : Nat} (h : j < 6 * n0) : ¬ TE n0 0 20 j := by unfold TE SE; omega
/-- the right side of a connection and its ; -/
theorem cn_right {d K N M C p a j x n0 q : Nat} {r l : Jvm.Term} (hd : 8 ≤ d) (s s1 : Mem) (ho : okT s) (hb : s 0 5 = 0) (hK2 : K < 120) (hl : l = eRef x r) (hn0 : N ≤ a ∧ a + 1 ≤ n0) (hR : RE s1 l a) (P1 : Fr (PF K N M C) s s1)
    (hna : N = a ∧ a + 1 = n0) (h1 : s1 25 K = 0 ∧ s1 26 K = p ∧ s1 28 K = a) (h2 : s1 0 40 = ((K + 1 : Nat) : Int) ∧ s1 0 32 = n0 ∧ s1 0 16 = M ∧ s1 0 17 = C ∧ s1 0 2 = j) (hB : ∀ i, s1 31 i = s 31 i) (hj : j ≤ (tx s).2) (hq : sk (tx s) j = q) (hn0j : n0 ≤ j) (hMp : M ≤ p) (hCp : 2 * C ≤ p) (hpj : p + 3 ≤ j) (c0 : AV) :
    OI K N M C p s (Ze d 25 70 [aR 0, aI p, aI K] [] s1) (bd (pEx (tx s) 6 q) fun e p3 => bd (pTk (tx s) 59 p3) fun _ p4 => .ok ((0, p, 0, 0, l, e), p4)) := by
  have hlen := tx_le ho
  obtain ⟨x1, o1, b1, w1⟩ := fr_pf P1 ho
  rw [hb] at b1
  have hE := t_takeExpression (d := d) (p := q) hd s1 o1 b1 h2.2.2.2.2 (by rw [x1]; exact hj) (by rw [x1]; exact hq) (n := n0) h2.2.1 (by omega)
  rw [x1] at hE
  have hNn : N ≤ n0 := by omega
  cases hx : pEx (tx s) 6 q with
  | error f =>
    rw [hx] at hE
    rw [bd_er]
    obtain ⟨s2, e1, e2, e3, e4⟩ := hE
    refine ⟨mu s2 29 K 0, ?_, by rw [mu_c (by decide), e2], by rw [mu_c (by decide), e3], ((P1.mono (fun _ _ => PF_X)).tr (e4.mono (fun _ _ h => PFX_PF (Nat.le_refl _) hNn (Nat.le_refl _) (Nat.le_refl _) (TX_PF h)))).mu (Or.inl (Or.inr (Or.inr (Or.inr (Or.inr (Or.inr (Or.inr (Or.inr ⟨by decide, by decide, Nat.le_refl _⟩))))))))⟩
    simp (disch := first | exact obC_0 | omega | (simp only [aN1_28, aN1_29]; omega) | (simp only [List.length_cons, List.length_nil]; omega)) only [en25, x25_0, x25_1, x25_2, x25_3, x25_6, x25_7, x25_8, x25_11, x25_12, x25_13, x25_16, x25_17, x25_18, x25_21, x25_24, x25_25, x25_26, x25_29, x25_31, x25_34, x25_35, x25_36, x25_39, x25_40, x25_41, x25_44, x25_46, x25_49, x25_50, x25_50i, x25_51, x25_54, x25_55, x25_56, x25_59, x25_62, x25_63, x25_64, x25_67, x25_70, x25_71, x25_74, x25_77, x25_78, x25_81, x25_82, x25_83, x25_86, x25_87, x25_88, x25_91, x25_94, x25_95, x25_97, x25_100, fcn_0_36, fcn_0_37, if_true, if_false, eq_self, Int.reduceEq, Int.reduceLT, Int.reduceLE, Int.reduceAdd, Int.reduceSub, Int.reduceMul, Int.reduceToNat, Nat.reduceAdd, Nat.reduceMul, Nat.reduceEqDiff, Int.toNat_natCast, wrap_id, b1, e1, zcI_r, mu_c, e2]
  | ok ep =>
    obtain ⟨e, p3⟩ := ep
    rw [hx] at hE
    rw [bd_ok]
    obtain ⟨s2, j2, e1, e2, e3, e4, e5, e6, e7, e8, F2⟩ := hE
    obtain ⟨x2, o2, b2, w2⟩ := fr_te F2 o1
    rw [x1] at x2
    rw [b1] at b2
    generalize hs3 : mu s2 29 K (n0 : Int) = s3
    have G3 : ∀ k j, k ≠ 29 → s3 k j = s2 k j := fun k j h => by rw [← hs3, mu_c h]
    have r3 : s3 29 K = n0 := by rw [← hs3, mu_s]
    have x3 : tx s3 = tx s := by rw [← hs3]; exact (tx_mc (k := 29) (by decide)).trans x2
    have o3 : okT s3 := by rw [← hs3]; exact okT_mc (k := 29) (by decide) o2
    have P3 : Fr (PF K N M C) s s3 := by
      rw [← hs3]
      exact (P1.tr (F2.mono (fun _ _ h => PF_PF (Nat.le_refl _) hNn (Nat.le_refl _) (Nat.le_refl _) (TE_PF h)))).mu (Or.inr (Or.inr (Or.inr (Or.inr (Or.inr (Or.inr (Or.inr ⟨by decide, by decide, Nat.le_refl _⟩)))))))
    have hz : Ze d 25 70 [aR 0, aI p, aI K] [] s1 = Ze d 25 87 [aR 0, aI p, aI K] [] s3 := by
      simp (disch := first | exact obC_0 | omega | (simp only [aN1_28, aN1_29]; omega) | (simp only [List.length_cons, List.length_nil]; omega)) only [en25, x25_0, x25_1, x25_2, x25_3, x25_6, x25_7, x25_8, x25_11, x25_12, x25_13, x25_16, x25_17, x25_18, x25_21, x25_24, x25_25, x25_26, x25_29, x25_31, x25_34, x25_35, x25_36, x25_39, x25_40, x25_41, x25_44, x25_46, x25_49, x25_50, x25_50i, x25_51, x25_54, x25_55, x25_56, x25_59, x25_62, x25_63, x25_64, x25_67, x25_70, x25_71, x25_74, x25_77, x25_78, x25_81, x25_82, x25_83, x25_86, x25_88, x25_91, x25_94, x25_95, x25_97, x25_100, fcn_0_36, fcn_0_37, if_true, if_false, eq_self, Int.reduceEq, Int.reduceLT, Int.reduceLE, Int.reduceAdd, Int.reduceSub, Int.reduceMul, Int.reduceToNat, Nat.reduceAdd, Nat.reduceMul, Nat.reduceEqDiff, Int.toNat_natCast, wrap_id, b1, e1, zcI_r, hs3]
    have R3 : RE s3 e n0 := RE_put e2 ⟨fun k j hk _ _ => G3 _ _ (by omega), fun j _ _ => G3 _ _ (by decide)⟩
    have L3 : RE s3 l a := by
      refine RE_put hR ⟨fun k j hk h1 h2 => ?_, fun j h1 h2 => ?_⟩
      · rw [G3 _ _ (by omega), F2 _ _ (cn_low (by rw [hl] at h2; exact Nat.lt_of_lt_of_le h2 hn0.2) hk)]
      · rw [G3 _ _ (by decide), F2 _ _ (cn_lowp (by rw [hl] at h2; exact Nat.lt_of_lt_of_le h2 (Nat.mul_le_mul_left 6 hn0.2)))]
    have g3 := sk_ge (tx s) j2
    have l3 := sk_le (tx s) e6
    rw [e5] at g3 l3
    have at3 : s3 0 2 = j2 := by rw [G3 _ _ (by decide), e4]
    have b3 : s3 0 5 = 0 := by rw [G3 _ _ (by decide), b2]
    have hgq := sk_ge (tx s) j
    rw [hq] at hgq
    rw [hz]
    by_cases h59 : cA (tx s) p3 = 59
    · rw [pTk_ok h59, bd_ok]
      have he := t_exp_ok (d := d) (by omega) s3 o3 at3 (by rw [x3]; exact e6) (c := 59) (by decide) (by rw [x3, e5]; exact h59)
      rw [x3, e5] at he
      have hp3 : p3 < (tx s).2 := cA_in (by omega)
      refine ⟨mu s3 0 2 ((p3 : Int) + 1), n0 + esz e, M, C, p3 + 1, ?_, ?_, ?_, ?_, ?_, ?_, by rw [mu_s]; rfl, rfl, by omega, by omega, by omega, by omega, by omega, ⟨by show n0 + esz e = N + (1 + esz e); omega, Nat.le_refl _, Nat.le_refl _⟩, ?_, P3.mu (Or.inl ⟨rfl, Or.inl rfl⟩)⟩
      · simp (disch := first | exact obC_0 | omega | (simp only [aN1_28, aN1_29]; omega) | (simp only [List.length_cons, List.length_nil]; omega)) only [en25, x25_0, x25_1, x25_2, x25_3, x25_6, x25_7, x25_8, x25_11, x25_12, x25_13, x25_16, x25_17, x25_18, x25_21, x25_24, x25_25, x25_26, x25_29, x25_31, x25_34, x25_35, x25_36, x25_39, x25_40, x25_41, x25_44, x25_46, x25_49, x25_50, x25_50i, x25_51, x25_54, x25_55, x25_56, x25_59, x25_62, x25_63, x25_64, x25_67, x25_70, x25_71, x25_74, x25_77, x25_78, x25_81, x25_82, x25_83, x25_86, x25_87, x25_88, x25_91, x25_94, x25_95, x25_97, x25_100, fcn_0_36, fcn_0_37, if_true, if_false, eq_self, Int.reduceEq, Int.reduceLT, Int.reduceLE, Int.reduceAdd, Int.reduceSub, Int.reduceMul, Int.reduceToNat, Nat.reduceAdd, Nat.reduceMul, Nat.reduceEqDiff, Int.toNat_natCast, wrap_id, b3, he, zcV_r]
      · refine ⟨?_, ?_, Or.inl ⟨rfl, a, n0, x, r, ?_, ?_, hl, ?_, hn0.1, hn0.2, ?_, Nat.le_refl _⟩⟩
        · rw [mu_c (by decide), G3 _ _ (by decide), F2 _ _ (TE_no (Or.inl (by decide)))]; exact h1.1
        · rw [mu_c (by decide), G3 _ _ (by decide), F2 _ _ (TE_no (Or.inl (by decide)))]; exact h1.2.1
        · rw [mu_c (by decide), G3 _ _ (by decide), F2 _ _ (TE_no (Or.inl (by decide)))]; exact h1.2.2
        · rw [mu_c (by decide), r3]
        · exact RE_put L3 ⟨fun k j hk _ _ => mu_c (by omega), fun j _ _ => mu_c (by decide)⟩
        · exact RE_put R3 ⟨fun k j hk _ _ => mu_c (by omega), fun j _ _ => mu_c (by decide)⟩
      · rw [mu_i (by decide), G3 _ _ (by decide), F2 _ _ (TE_no (Or.inr (Or.inr (by decide)))), h2.1]
      · rw [mu_i (by decide), G3 _ _ (by decide), e3]
      · rw [mu_i (by decide), G3 _ _ (by decide), F2 _ _ (TE_no (Or.inr (Or.inr (by decide)))), h2.2.2.1]
      · rw [mu_i (by decide), G3 _ _ (by decide), F2 _ _ (TE_no (Or.inr (Or.inr (by decide)))), h2.2.2.2.1]
      · intro j
        rw [mu_c (by decide), G3 _ _ (by decide), F2 _ _ (TE_no (Or.inl (by decide))), hB]
    · rw [pTk_no h59, bd_er]
      have he := t_exp_no (d := d) (by omega) s3 o3 b3 at3 (by rw [x3]; exact e6) (c := 59) (by decide) (by rw [x3, e5]; exact h59)
      rw [x3, e5] at he
      refine ⟨mu (mu (mu s3 0 2 (p3 : Int)) 0 3 (p3 : Int)) 0 5 1, ?_, mu_s, by rw [mu_i (by decide), mu_s], (((P3.mono (fun _ _ => PF_X)).mu (Or.inl (Or.inl ⟨rfl, Or.inl rfl⟩))).mu (Or.inr (by decide))).mu (Or.inr (by decide))⟩
      simp (disch := first | exact obC_0 | omega | (simp only [aN1_28, aN1_29]; omega) | (simp only [List.length_cons, List.length_nil]; omega)) only [en25, x25_0, x25_1, x25_2, x25_3, x25_6, x25_7, x25_8, x25_11, x25_12, x25_13, x25_16, x25_17, x25_18, x25_21, x25_24, x25_25, x25_26, x25_29, x25_31, x25_34, x25_35, x25_36, x25_39, x25_40, x25_41, x25_44, x25_46, x25_49, x25_50, x25_50i, x25_51, x25_54, x25_55, x25_56, x25_59, x25_62, x25_63, x25_64, x25_67, x25_70, x25_71, x25_74, x25_77, x25_78, x25_81, x25_82, x25_83, x25_86, x25_87, x25_88, x25_91, x25_94, x25_95, x25_97, x25_100, fcn_0_36, fcn_0_37, if_true, if_false, eq_self, Int.reduceEq, Int.reduceLT, Int.reduceLE, Int.reduceAdd, Int.reduceSub, Int.reduceMul, Int.reduceToNat, Nat.reduceAdd, Nat.reduceMul, Nat.reduceEqDiff, Int.toNat_natCast, wrap_id, b3, he, zcV_r]
theorem t_connect {d K N M C p : Nat} (hd : 9 ≤ d) (s : Mem) (ho : okT s) (hb : s 0 5 = 0) (hat : s 0 2 = p) (hsk : sk (tx s) p = p) (hpN : isN (cA (tx s) p)) (hN : s 0 32 = N) (hM : s 0 16 = M) (hC : s 0 17 = C) (hK : s 0 40 = K) (hNp : N ≤ p) (hMp : M ≤ p) (hCp : 2 * C ≤ p) (hK2 : K < 120) :
    OI K N M C p s (Zc d 25 [aR 0, aI p] s) (pConn (tx s) p) := by
  obtain ⟨d, rfl⟩ : ∃ e, d = e + 1 := ⟨d - 1, by omega⟩
  have hlen := tx_le ho
  have hp : p < (tx s).2 := cA_in (by have := hpN.1; omega)
  have hst := t_newStep (d := d) (by omega) s hK hK2 0 p
  obtain ⟨a1, a2, a3⟩ := nStep_at (s := s) (K := K) (o := 0) (p := p)
  have F1 : Fr (FH K) s (nStep s K 0 p) := nStep_fr
  have q0 : ∀ {i : Nat}, i ≠ 40 → nStep s K 0 p 0 i = s 0 i := fun h => nStep_0 h
  generalize nStep s K 0 p = s1 at *
  obtain ⟨x1, o1, b1⟩ := fr_fh F1 ho
  rw [hb] at b1
  have P1 : Fr (PF K N M C) s s1 := F1.mono (fun _ _ => FH_PF)
  have hR := t_takeRef (d := d) (p := p) (n := N) (by omega) (by omega) s1 o1 b1 (by rw [q0 (by decide), hat]) (by rw [x1]; omega) (by rw [x1, hsk]) (by rw [q0 (by decide), hN]) (by rw [x1]; exact hpN)
  rw [x1] at hR
  unfold pConn
  cases hx : pRf (tx s) p with
  | error f =>
    rw [hx] at hR
    rw [bd_er]
    obtain ⟨s2, e1, e2, e3, e4⟩ := hR
    refine ⟨mu s2 28 K N, ?_, by rw [mu_c (by decide), e2], by rw [mu_c (by decide), e3], ((P1.mono (fun _ _ => PF_X)).tr (e4.mono (fun _ _ => SX_PF))).mu (Or.inl (Or.inr (Or.inr (Or.inr (Or.inr (Or.inr (Or.inr (Or.inr ⟨by decide, by decide, Nat.le_refl _⟩))))))))⟩
    simp (disch := first | exact obC_0 | omega | (simp only [aN1_28, aN1_29]; omega) | (simp only [List.length_cons, List.length_nil]; omega)) only [en25, x25_0, x25_1, x25_2, x25_3, x25_6, x25_7, x25_8, x25_11, x25_12, x25_13, x25_16, x25_17, x25_18, x25_21, x25_24, x25_25, x25_26, x25_29, x25_31, x25_34, x25_35, x25_36, x25_39, x25_40, x25_41, x25_44, x25_46, x25_49, x25_50, x25_50i, x25_51, x25_54, x25_55, x25_56, x25_59, x25_62, x25_63, x25_64, x25_67, x25_70, x25_71, x25_74, x25_77, x25_78, x25_81, x25_82, x25_83, x25_86, x25_87, x25_88, x25_91, x25_94, x25_95, x25_97, x25_100, fcn_0_36, fcn_0_37, if_true, if_false, eq_self, Int.reduceEq, Int.reduceLT, Int.reduceLE, Int.reduceAdd, Int.reduceSub, Int.reduceMul, Int.reduceToNat, Nat.reduceAdd, Nat.reduceMul, Nat.reduceEqDiff, Int.toNat_natCast, wrap_id, hst, e1, zcI_r, mu_c, e2]
  | ok lq =>
    obtain ⟨l, q⟩ := lq
    rw [hx] at hR
    rw [bd_ok]
    obtain ⟨s2, nm, r, hl, e1, e2, e3, e4, e5, e6, epa, e7, e8, e9, e10, e11, F2⟩ := hR
    have T2 : Fr (TE N 0) s1 s2 := F2.mono (fun _ _ h => Or.inl h)
    obtain ⟨x2, o2, b2, w2⟩ := fr_te T2 o1
    rw [x1] at x2
    rw [b1] at b2
    generalize hs3 : mu s2 28 K (N : Int) = s3
    have G3 : ∀ k j, k ≠ 28 → s3 k j = s2 k j := fun k j h => by rw [← hs3, mu_c h]
    have r3 : s3 28 K = N := by rw [← hs3, mu_s]
    have x3 : tx s3 = tx s := by rw [← hs3]; exact (tx_mc (k := 28) (by decide)).trans x2
    have o3 : okT s3 := by rw [← hs3]; exact okT_mc (k := 28) (by decide) o2
    have P3 : Fr (PF K N M C) s s3 := by
      rw [← hs3]
      exact (P1.tr (F2.mono (fun _ _ => SE_PF))).mu (Or.inr (Or.inr (Or.inr (Or.inr (Or.inr (Or.inr (Or.inr ⟨by decide, by decide, Nat.le_refl _⟩)))))))
    have at3 : s3 0 2 = q := by rw [G3 _ _ (by decide), e7]
    have b3 : s3 0 5 = 0 := by rw [G3 _ _ (by decide), b2]
    have R3 : RE s3 l N := by
      refine RE_put ?_ ⟨fun k j hk _ _ => G3 _ _ (by omega), fun j _ _ => G3 _ _ (by decide)⟩
      rw [hl]
      unfold eRef RE
      exact ⟨e2, e3, e4, e5, e6, epa⟩
    have hh := t_here (d := d) (by omega) s3 o3 at3 (by rw [x3]; exact e10)
    rw [x3, e9, mu_eq at3] at hh
    have hc := t_charAt (d := d) (by omega) s3 o3 (q + 1)
    rw [x3] at hc
    have S3 : Zc (d + 1) 25 [aR 0, aI p] s = Ze d 25 25 [aR 0, aI p, aI K] [] s3 := by
      simp (disch := first | exact obC_0 | omega | (simp only [aN1_28, aN1_29]; omega) | (simp only [List.length_cons, List.length_nil]; omega)) only [en25, x25_0, x25_1, x25_2, x25_3, x25_6, x25_7, x25_8, x25_11, x25_12, x25_13, x25_16, x25_17, x25_18, x25_21, x25_24, x25_26, x25_29, x25_31, x25_34, x25_35, x25_36, x25_39, x25_40, x25_41, x25_44, x25_46, x25_49, x25_50, x25_50i, x25_51, x25_54, x25_55, x25_56, x25_59, x25_62, x25_63, x25_64, x25_67, x25_70, x25_71, x25_74, x25_77, x25_78, x25_81, x25_82, x25_83, x25_86, x25_87, x25_88, x25_91, x25_94, x25_95, x25_97, x25_100, fcn_0_36, fcn_0_37, if_true, if_false, eq_self, Int.reduceEq, Int.reduceLT, Int.reduceLE, Int.reduceAdd, Int.reduceSub, Int.reduceMul, Int.reduceToNat, Nat.reduceAdd, Nat.reduceMul, Nat.reduceEqDiff, Int.toNat_natCast, wrap_id, hst, e1, zcI_r, hs3, b3]
    rw [S3]
    by_cases hA : cA (tx s) q = 60 ∧ cA (tx s) (q + 1) = 61
    · rw [pAr_ok hA, bd_ok]
      have hq : q + 1 < (tx s).2 := cA_in (by omega)
      have hz : Ze d 25 25 [aR 0, aI p, aI K] [] s3 = Ze d 25 70 [aR 0, aI p, aI K] [] (mu s3 0 2 ((q + 2 : Nat) : Int)) := by
        rw [show ((q + 2 : Nat) : Int) = (q : Int) + 2 by omega]
        rw [show ((q + 1 : Nat) : Int) = (q : Int) + 1 by omega] at hc
        simp (disch := first | exact obC_0 | omega | (simp only [aN1_28, aN1_29]; omega) | (simp only [List.length_cons, List.length_nil]; omega)) only [en25, x25_0, x25_1, x25_2, x25_3, x25_6, x25_7, x25_8, x25_11, x25_12, x25_13, x25_16, x25_17, x25_18, x25_21, x25_24, x25_25, x25_26, x25_29, x25_31, x25_34, x25_35, x25_36, x25_39, x25_40, x25_41, x25_44, x25_46, x25_49, x25_50, x25_50i, x25_51, x25_54, x25_55, x25_56, x25_59, x25_62, x25_63, x25_64, x25_67, x25_71, x25_74, x25_77, x25_78, x25_81, x25_82, x25_83, x25_86, x25_87, x25_88, x25_91, x25_94, x25_95, x25_97, x25_100, fcn_0_36, fcn_0_37, if_true, if_false, eq_self, Int.reduceEq, Int.reduceLT, Int.reduceLE, Int.reduceAdd, Int.reduceSub, Int.reduceMul, Int.reduceToNat, Nat.reduceAdd, Nat.reduceMul, Nat.reduceEqDiff, Int.toNat_natCast, wrap_id, hh, hc, zcI_r, at3, hA.1, hA.2]
      rw [hz]
      refine cn_right (j := q + 2) (a := N) (n0 := N + 1) (x := nm) (r := r) (by omega) s _ ho hb hK2 hl ⟨Nat.le_refl _, Nat.le_refl _⟩ ?_ (P3.mu (Or.inl ⟨rfl, Or.inl rfl⟩)) ⟨rfl, rfl⟩ ⟨?_, ?_, ?_⟩ ⟨?_, ?_, ?_, ?_, mu_s⟩ ?_ (by omega) rfl (by omega) hMp hCp (by omega) aU
      · exact RE_put R3 ⟨fun k j hk _ _ => mu_c (by omega), fun j _ _ => mu_c (by decide)⟩
      · rw [mu_c (by decide), G3 _ _ (by decide), T2 _ _ (TE_no (Or.inl (by decide))), a1]
      · rw [mu_c (by decide), G3 _ _ (by decide), T2 _ _ (TE_no (Or.inl (by decide))), a2]
      · rw [mu_c (by decide), r3]
      · rw [mu_i (by decide), G3 _ _ (by decide), T2 _ _ (TE_no (Or.inr (Or.inr (by decide)))), a3]
      · rw [mu_i (by decide), G3 _ _ (by decide), e8]
      · rw [mu_i (by decide), G3 _ _ (by decide), T2 _ _ (TE_no (Or.inr (Or.inr (by decide)))), q0 (by decide), hM]
      · rw [mu_i (by decide), G3 _ _ (by decide), T2 _ _ (TE_no (Or.inr (Or.inr (by decide)))), q0 (by decide), hC]
      · intro j
        rw [mu_c (by decide), G3 _ _ (by decide), T2 _ _ (TE_no (Or.inl (by decide))), F1 _ _ (FH_no (Or.inr (by decide)))]
    · rw [pAr_no hA, bd_er]
      have hw := t_wrong (d := d) (by omega) s3 q
      rw [wr_0 b3] at hw
      refine ⟨mu (mu s3 0 3 (q : Int)) 0 5 1, ?_, mu_s, by rw [mu_i (by decide), mu_s], ((P3.mono (fun _ _ => PF_X)).mu (Or.inr (by decide))).mu (Or.inr (by decide))⟩
      rw [show ((q + 1 : Nat) : Int) = (q : Int) + 1 by omega] at hc
      by_cases h1 : cA (tx s) q = 60
      · have h2 : ¬ cA (tx s) (q + 1) = 61 := fun z => hA ⟨h1, z⟩
        simp (disch := first | exact obC_0 | omega | (simp only [aN1_28, aN1_29]; omega) | (simp only [List.length_cons, List.length_nil]; omega)) only [en25, x25_0, x25_1, x25_2, x25_3, x25_6, x25_7, x25_8, x25_11, x25_12, x25_13, x25_16, x25_17, x25_18, x25_21, x25_24, x25_25, x25_26, x25_29, x25_31, x25_34, x25_35, x25_36, x25_39, x25_40, x25_41, x25_44, x25_46, x25_49, x25_50, x25_50i, x25_51, x25_54, x25_55, x25_56, x25_59, x25_62, x25_63, x25_64, x25_67, x25_70, x25_71, x25_74, x25_77, x25_78, x25_81, x25_82, x25_83, x25_86, x25_87, x25_88, x25_91, x25_94, x25_95, x25_97, x25_100, fcn_0_36, fcn_0_37, if_true, if_false, eq_self, Int.reduceEq, Int.reduceLT, Int.reduceLE, Int.reduceAdd, Int.reduceSub, Int.reduceMul, Int.reduceToNat, Nat.reduceAdd, Nat.reduceMul, Nat.reduceEqDiff, Int.toNat_natCast, wrap_id, hh, hc, zcI_r, zcV_r, at3, h1, if_neg h2, hw, mu_s]
      · simp (disch := first | exact obC_0 | omega | (simp only [aN1_28, aN1_29]; omega) | (simp only [List.length_cons, List.length_nil]; omega)) only [en25, x25_0, x25_1, x25_2, x25_3, x25_6, x25_7, x25_8, x25_11, x25_12, x25_13, x25_16, x25_17, x25_18, x25_21, x25_24, x25_25, x25_26, x25_29, x25_31, x25_34, x25_35, x25_36, x25_39, x25_40, x25_41, x25_44, x25_46, x25_49, x25_50, x25_50i, x25_51, x25_54, x25_55, x25_56, x25_59, x25_62, x25_63, x25_64, x25_67, x25_70, x25_71, x25_74, x25_77, x25_78, x25_81, x25_82, x25_83, x25_86, x25_87, x25_88, x25_91, x25_94, x25_95, x25_97, x25_100, fcn_0_36, fcn_0_37, if_true, if_false, eq_self, Int.reduceEq, Int.reduceLT, Int.reduceLE, Int.reduceAdd, Int.reduceSub, Int.reduceMul, Int.reduceToNat, Nat.reduceAdd, Nat.reduceMul, Nat.reduceEqDiff, Int.toNat_natCast, wrap_id, hh, hc, zcI_r, zcV_r, at3, if_neg h1, hw, mu_s]
