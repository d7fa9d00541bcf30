/-! THE CLASS: a field, a bundle, a type -/
theorem fd_head {d k u o : Nat} {T : Tx} {s : Mem} {dp : Int} (hd : 2 ≤ d) (h : KS s T u o k) :
    match pFh T (tP T k) with
    | .ok (nb, q) => ∃ (s1 : Mem) (k1 : Nat), Zc (d + 1) 134 [aR 131, aI dp] s = Ze d 134 52 [aR 131, aI dp, aI nb.1, aI nb.2, aU] [] s1 ∧ KS s1 T u o k1 ∧ tP T k1 = q ∧ k + 2 ≤ k1 ∧ Fr NX s s1 ∧ nb.1 < 26 ∧ nb.2 ≤ 1
    | .error f => ∃ s1, Zc (d + 1) 134 [aR 131, aI dp] s = rI (-1) s1 ∧ s1 131 5 = f ∧ Fr (fun k j => NX k j ∨ NF k j) s s1 := by
  unfold pFh pNm
  by_cases hN : isN (cA T (tP T k))
  · rw [if_pos hN, bd_ok]
    obtain ⟨s1, e1, e2, e3, e4⟩ := kt_name (d := d) hd h hN
    rw [← e3]
    generalize hnn : cA T (tP T k) - 97 = v at e1 ⊢
    obtain ⟨n, rfl⟩ : ∃ w : Nat, v = w := ⟨v.toNat, by omega⟩
    have hn26 : n < 26 := by omega
    rw [Int.toNat_natCast]
    have hkd := kt_kind (d := d) (by omega) e2
    have hnx := e2.2.2.2.1
    have hle := KS_le e2
    by_cases h126 : cA T (tP T (k + 1)) = 126
    · rw [if_pos h126]
      have hk : s1 111 (k + 1) = 126 := (KS_ch e2 (by decide)).mpr h126
      have hlt := KS_lt e2 (by omega)
      have h2 := KS_nx e2 hlt
      rw [← tP_one (k := k + 1) ⟨by omega, by omega⟩]
      have F2 : Fr NX s (mu s1 131 4 (((k + 1 : Nat) : Int) + 1)) := e4.mu ⟨rfl, rfl⟩
      unfold pTk
      by_cases h58 : cA T (tP T (k + 1 + 1)) = 58
      · rw [if_pos h58, bd_ok]
        obtain ⟨s3, g1, g2, g3, g4⟩ := kt_take (d := d) hd h2 (by decide) h58
        refine ⟨s3, k + 1 + 1 + 1, ?_, g2, g3, by omega, F2.tr g4, hn26, by dsimp only; rw [if_pos h126]; decide⟩
        rw [if_pos h126]
        have z1 : ((1 : Nat) : Int) = 1 := rfl
        simp (disch := first | exact obC_114 | exact obC_131 | omega | (simp only [List.length_cons, List.length_nil]; omega)) only [en134, x134_0, x134_1, x134_4, x134_5, x134_6, x134_7, x134_10, x134_11, x134_12, x134_13, x134_16, x134_18, x134_21, x134_22, x134_25, x134_26, x134_27, x134_28, x134_31, x134_32, x134_32i, x134_33, x134_36, x134_37, x134_38, x134_41, x134_42, x134_44, x134_47, x134_50, x134_51, x134_53, x134_54, x134_55, x134_56, x134_59, x134_61, x134_63, x134_64, x134_67, x134_68, x134_71, x134_72, x134_75, x134_76, x134_77, x134_79, x134_82, fcn_131_1, if_true, if_false, eq_self, Int.reduceEq, Int.reduceLT, Int.reduceLE, Int.reduceAdd, Int.reduceSub, Int.reduceMul, Int.reduceToNat, Nat.reduceAdd, Nat.reduceMul, Nat.reduceEqDiff, Int.toNat_natCast, wrap_id, e1, zcI_r, if_neg (show ¬ ((n : Nat) : Int) = -1 by omega), hkd, hk, hnx, g1, z1]
      · rw [if_neg h58, bd_er]
        obtain ⟨s3, g1, g2, g3⟩ := kt_takeF (d := d) hd h2 (by decide) h58
        refine ⟨s3, ?_, g2, (F2.mono (fun _ _ h => Or.inl h)).tr (g3.mono (fun _ _ h => Or.inr h))⟩
        simp (disch := first | exact obC_114 | exact obC_131 | omega | (simp only [List.length_cons, List.length_nil]; omega)) only [en134, x134_0, x134_1, x134_4, x134_5, x134_6, x134_7, x134_10, x134_11, x134_12, x134_13, x134_16, x134_18, x134_21, x134_22, x134_25, x134_26, x134_27, x134_28, x134_31, x134_32, x134_32i, x134_33, x134_36, x134_37, x134_38, x134_41, x134_42, x134_44, x134_47, x134_50, x134_51, x134_53, x134_54, x134_55, x134_56, x134_59, x134_61, x134_63, x134_64, x134_67, x134_68, x134_71, x134_72, x134_75, x134_76, x134_77, x134_79, x134_82, fcn_131_1, if_true, if_false, eq_self, Int.reduceEq, Int.reduceLT, Int.reduceLE, Int.reduceAdd, Int.reduceSub, Int.reduceMul, Int.reduceToNat, Nat.reduceAdd, Nat.reduceMul, Nat.reduceEqDiff, Int.toNat_natCast, wrap_id, e1, zcI_r, if_neg (show ¬ ((n : Nat) : Int) = -1 by omega), hkd, hk, hnx, g1]
    · rw [if_neg h126]
      have hk : ¬ s1 111 (k + 1) = 126 := fun z => h126 ((KS_ch e2 (by decide)).mp z)
      unfold pTk
      by_cases h58 : cA T (tP T (k + 1)) = 58
      · rw [if_pos h58, bd_ok]
        obtain ⟨s3, g1, g2, g3, g4⟩ := kt_take (d := d) hd e2 (by decide) h58
        refine ⟨s3, k + 1 + 1, ?_, g2, g3, by omega, e4.tr g4, hn26, by dsimp only; rw [if_neg h126]; decide⟩
        rw [if_neg h126]
        have z1 : ((0 : Nat) : Int) = 0 := rfl
        simp (disch := first | exact obC_114 | exact obC_131 | omega | (simp only [List.length_cons, List.length_nil]; omega)) only [en134, x134_0, x134_1, x134_4, x134_5, x134_6, x134_7, x134_10, x134_11, x134_12, x134_13, x134_16, x134_18, x134_21, x134_22, x134_25, x134_26, x134_27, x134_28, x134_31, x134_32, x134_32i, x134_33, x134_36, x134_37, x134_38, x134_41, x134_42, x134_44, x134_47, x134_50, x134_51, x134_53, x134_54, x134_55, x134_56, x134_59, x134_61, x134_63, x134_64, x134_67, x134_68, x134_71, x134_72, x134_75, x134_76, x134_77, x134_79, x134_82, fcn_131_1, if_true, if_false, eq_self, Int.reduceEq, Int.reduceLT, Int.reduceLE, Int.reduceAdd, Int.reduceSub, Int.reduceMul, Int.reduceToNat, Nat.reduceAdd, Nat.reduceMul, Nat.reduceEqDiff, Int.toNat_natCast, wrap_id, e1, zcI_r, if_neg (show ¬ ((n : Nat) : Int) = -1 by omega), hkd, if_neg hk, g1, z1]
      · rw [if_neg h58, bd_er]
        obtain ⟨s3, g1, g2, g3⟩ := kt_takeF (d := d) hd e2 (by decide) h58
        refine ⟨s3, ?_, g2, (e4.mono (fun _ _ h => Or.inl h)).tr (g3.mono (fun _ _ h => Or.inr h))⟩
        simp (disch := first | exact obC_114 | exact obC_131 | omega | (simp only [List.length_cons, List.length_nil]; omega)) only [en134, x134_0, x134_1, x134_4, x134_5, x134_6, x134_7, x134_10, x134_11, x134_12, x134_13, x134_16, x134_18, x134_21, x134_22, x134_25, x134_26, x134_27, x134_28, x134_31, x134_32, x134_32i, x134_33, x134_36, x134_37, x134_38, x134_41, x134_42, x134_44, x134_47, x134_50, x134_51, x134_53, x134_54, x134_55, x134_56, x134_59, x134_61, x134_63, x134_64, x134_67, x134_68, x134_71, x134_72, x134_75, x134_76, x134_77, x134_79, x134_82, fcn_131_1, if_true, if_false, eq_self, Int.reduceEq, Int.reduceLT, Int.reduceLE, Int.reduceAdd, Int.reduceSub, Int.reduceMul, Int.reduceToNat, Nat.reduceAdd, Nat.reduceMul, Nat.reduceEqDiff, Int.toNat_natCast, wrap_id, e1, zcI_r, if_neg (show ¬ ((n : Nat) : Int) = -1 by omega), hkd, if_neg hk, g1]
  · rw [if_neg hN, bd_er]
    obtain ⟨s1, e1, e2, e3⟩ := kt_nameF (d := d) hd h hN
    refine ⟨s1, ?_, e2, e3.mono (fun _ _ h => Or.inr h)⟩
    simp (disch := first | exact obC_114 | exact obC_131 | omega | (simp only [List.length_cons, List.length_nil]; omega)) only [en134, x134_0, x134_1, x134_4, x134_5, x134_6, x134_7, x134_10, x134_11, x134_12, x134_13, x134_16, x134_18, x134_21, x134_22, x134_25, x134_26, x134_27, x134_28, x134_31, x134_32, x134_32i, x134_33, x134_36, x134_37, x134_38, x134_41, x134_42, x134_44, x134_47, x134_50, x134_51, x134_53, x134_54, x134_55, x134_56, x134_59, x134_61, x134_63, x134_64, x134_67, x134_68, x134_71, x134_72, x134_75, x134_76, x134_77, x134_79, x134_82, fcn_131_1, if_true, if_false, eq_self, Int.reduceEq, Int.reduceLT, Int.reduceLE, Int.reduceAdd, Int.reduceSub, Int.reduceMul, Int.reduceToNat, Nat.reduceAdd, Nat.reduceMul, Nat.reduceEqDiff, Int.toNat_natCast, wrap_id, e1, zcI_r]
def fAdd (s : Mem) (C : Nat) (n b t : Int) : Mem := mu (mu (mu (mu (mu s 119 C n) 120 C b) 121 C t) 123 C (-1)) 114 10 ((C : Int) + 1)
theorem k_addField {d C : Nat} {n b t : Int} {s : Mem} (hd : 1 ≤ d) (hC : s 114 10 = C) (hC2 : C < 200) (hb : b = 0 ∨ b = 1) : Zc d 166 [aR 114, aI n, aI b, aI t] s = rI C (fAdd s C n b t) := by
  obtain ⟨d, rfl⟩ : ∃ e, d = e + 1 := ⟨d - 1, by omega⟩
  unfold fAdd
  simp (disch := first | exact obC_114 | omega | (simp only [aN1_119, aN1_121, aN1_123, aN2_120]; omega) | (simp only [List.length_cons, List.length_nil]; omega)) only [en166, x166_0, x166_1, x166_4, x166_6, x166_7, x166_10, x166_12, x166_13, x166_14, x166_15, x166_18, x166_20, x166_21, x166_22, x166_23, x166_26, x166_28, x166_29, x166_30, x166_31, x166_34, x166_36, x166_37, x166_38, x166_39, x166_39i, x166_40, x166_43, x166_44, x166_45, x166_48, x166_50, fcn_114_5, fcn_114_6, fcn_114_7, fcn_114_9, if_true, if_false, eq_self, Int.reduceEq, Int.reduceLT, Int.reduceLE, Int.reduceAdd, Int.reduceSub, Int.reduceMul, Int.reduceToNat, Nat.reduceAdd, Nat.reduceMul, Nat.reduceEqDiff, Int.toNat_natCast, wrap_id, hC, mu_c, mu_i, mu_s]
theorem fAdd_at {s : Mem} {C : Nat} {n b t : Int} : fAdd s C n b t 119 C = n ∧ fAdd s C n b t 120 C = b ∧ fAdd s C n b t 121 C = t ∧ fAdd s C n b t 123 C = -1 ∧ fAdd s C n b t 114 10 = ((C + 1 : Nat) : Int) ∧ (∀ k j, (k < 114 ∨ 123 < k ∨ (k = 114 ∧ j ≠ 10) ∨ (114 < k ∧ k < 119) ∨ (114 < k ∧ j ≠ C)) → fAdd s C n b t k j = s k j) := by
  unfold fAdd
  refine ⟨?_, ?_, ?_, ?_, ?_, fun k j h => ?_⟩
  · rw [mu_c (by decide), mu_c (by decide), mu_c (by decide), mu_c (by decide), mu_s]
  · rw [mu_c (by decide), mu_c (by decide), mu_c (by decide), mu_s]
  · rw [mu_c (by decide), mu_c (by decide), mu_s]
  · rw [mu_c (by decide), mu_s]
  · rw [mu_s]
    rfl
  · by_cases e : k < 119 ∨ 123 < k
    · by_cases e2 : k = 114
      · rw [mu_i (by omega), mu_c (by omega), mu_c (by omega), mu_c (by omega), mu_c (by omega)]
      · rw [mu_c (by omega), mu_c (by omega), mu_c (by omega), mu_c (by omega), mu_c (by omega)]
    · rw [mu_c (by omega), mu_i (by omega), mu_i (by omega), mu_i (by omega), mu_i (by omega)]
theorem fAdd_fr {s : Mem} {M C c : Nat} {n b t : Int} (h : C ≤ c) : Fr (YF M C) s (fAdd s c n b t) := by
  unfold fAdd
  exact (((((Fr.rf s).mu (Or.inr (Or.inr (Or.inr ⟨by omega, by omega, h⟩)))).mu (Or.inr (Or.inr (Or.inr ⟨by omega, by omega, h⟩)))).mu (Or.inr (Or.inr (Or.inr ⟨by omega, by omega, h⟩)))).mu (Or.inr (Or.inr (Or.inr ⟨by omega, by omega, h⟩)))).mu (Or.inr (Or.inl ⟨rfl, Or.inr rfl⟩))
theorem fd_tail {d C : Nat} {s s1 : Mem} {dp : Int} {n b t : Nat} (hd : 1 ≤ d) (hdp : 0 ≤ dp ∧ dp ≤ 10) (hb : b ≤ 1) (e : Zc d 130 [aR 131, aI (dp + 1)] s = rI t s1) (hC : s1 114 10 = C) (hC2 : C < 200) : Ze d 134 52 [aR 131, aI dp, aI n, aI b, aU] [] s = rI C (fAdd s1 C n b t) := by
  simp (disch := first | exact obC_114 | exact obC_131 | omega | (simp only [List.length_cons, List.length_nil]; omega)) only [en134, x134_0, x134_1, x134_4, x134_5, x134_6, x134_7, x134_10, x134_11, x134_12, x134_13, x134_16, x134_18, x134_21, x134_22, x134_25, x134_26, x134_27, x134_28, x134_31, x134_32, x134_32i, x134_33, x134_36, x134_37, x134_38, x134_41, x134_42, x134_44, x134_47, x134_50, x134_51, x134_52, x134_53, x134_54, x134_55, x134_56, x134_59, x134_61, x134_63, x134_64, x134_67, x134_68, x134_71, x134_72, x134_75, x134_76, x134_77, x134_79, x134_82, fcn_131_1, if_true, if_false, eq_self, Int.reduceEq, Int.reduceLT, Int.reduceLE, Int.reduceAdd, Int.reduceSub, Int.reduceMul, Int.reduceToNat, Nat.reduceAdd, Nat.reduceMul, Nat.reduceEqDiff, Int.toNat_natCast, wrap_id, e, zcI_r, if_neg (show ¬ ((t : Nat) : Int) = -1 by omega), k_addField (d := d) hd hC hC2 (show (b : Int) = 0 ∨ (b : Int) = 1 by omega)]
theorem fd_tailF {d : Nat} {s s1 : Mem} {dp : Int} {n b : Nat} (hdp : 0 ≤ dp ∧ dp ≤ 10) (e : Zc d 130 [aR 131, aI (dp + 1)] s = rI (-1) s1) : Ze d 134 52 [aR 131, aI dp, aI n, aI b, aU] [] s = rI (-1) s1 := by
  simp (disch := first | exact obC_114 | exact obC_131 | omega | (simp only [List.length_cons, List.length_nil]; omega)) only [en134, x134_0, x134_1, x134_4, x134_5, x134_6, x134_7, x134_10, x134_11, x134_12, x134_13, x134_16, x134_18, x134_21, x134_22, x134_25, x134_26, x134_27, x134_28, x134_31, x134_32, x134_32i, x134_33, x134_36, x134_37, x134_38, x134_41, x134_42, x134_44, x134_47, x134_50, x134_51, x134_52, x134_53, x134_54, x134_55, x134_56, x134_59, x134_61, x134_63, x134_64, x134_67, x134_68, x134_71, x134_72, x134_75, x134_76, x134_77, x134_79, x134_82, fcn_131_1, if_true, if_false, eq_self, Int.reduceEq, Int.reduceLT, Int.reduceLE, Int.reduceAdd, Int.reduceSub, Int.reduceMul, Int.reduceToNat, Nat.reduceAdd, Nat.reduceMul, Nat.reduceEqDiff, Int.toNat_natCast, wrap_id, e, zcI_r]
def YI (d D : Nat) (T : Tx) (u o : Nat) : Prop := ∀ (k M C : Nat) (s : Mem), KS s T u o k → s 114 4 = M → M ≤ k + 1 → s 114 10 = C → C ≤ k → YO T u o k M C s (Zc d 130 [aR 131, aI ((4 : Int) - D)] s) (pTy T D (tP T k))
/-- a field: its head and its type -/
theorem k_field {d D k u o M C : Nat} {T : Tx} {s : Mem} (hd : 2 ≤ d) (hD : D ≤ 3) (ih : YI d D T u o) (h : KS s T u o k) (hM : s 114 4 = M) (hMk : M ≤ k + 1) (hC : s 114 10 = C) (hCk : C ≤ k) :
    match bd (pFh T (tP T k)) (fun nb p3 => bd (pTy T D p3) fun t p4 => .ok ((nb, t), p4)) with
    | .ok (x, q) => ∃ (s' : Mem) (k' t M' f : Nat), Zc (d + 1) 134 [aR 131, aI ((4 : Int) - D - 1)] s = rI f s' ∧ KS s' T u o k' ∧ tP T k' = q ∧ k + 3 ≤ k' ∧ CT s' true x.2 t M' C f 0 ∧ s' 119 f = x.1.1 ∧ s' 120 f = x.1.2 ∧ s' 121 f = t ∧ s' 123 f = -1 ∧ (x.1.1 < 26 ∧ x.1.2 ≤ 1) ∧ s' 114 4 = M' ∧ s' 114 10 = ((f + 1 : Nat) : Int) ∧ (M ≤ M' ∧ C ≤ f) ∧ M' + k ≤ M + k' ∧ f + 1 + k ≤ C + k' ∧ Fr (YF M C) s s'
    | .error e => (∃ s', Zc (d + 1) 134 [aR 131, aI ((4 : Int) - D - 1)] s = rI (-1) s' ∧ s' 131 5 = e ∧ Fr (YFX M C) s s') ∨
        (∃ (s' : Mem) (k' v : Nat), Zc (d + 1) 134 [aR 131, aI ((4 : Int) - D - 1)] s = rI v s' ∧ KS s' T u o k' ∧ tP T k' = e ∧ isD (cA T e) ∧ k ≤ k' ∧ C ≤ v ∧ v < 200 ∧ Fr (YF M C) s s') := by
  have hh := fd_head (d := d) (dp := (4 : Int) - D - 1) hd h
  cases hq : pFh T (tP T k) with
  | error f =>
    rw [hq] at hh
    obtain ⟨s1, e1, e2, e3⟩ := hh
    rw [bd_er]
    exact Or.inl ⟨s1, e1, e2, e3.mono (fun _ _ h => h.elim (fun h => YF_X (NX_YF h)) NF_YFX)⟩
  | ok nbq =>
    obtain ⟨⟨n, b⟩, q1⟩ := nbq
    rw [hq] at hh
    obtain ⟨s1, k1, e1, e2, e3, e4, e5, e6, e7⟩ := hh
    dsimp only at e1 e6 e7
    subst e3
    rw [bd_ok]
    obtain ⟨-, n2⟩ := NX_at e5
    have hle := KS_le e2
    have hy := ih k1 M C s1 e2 (by rw [n2 _ _ (by decide), hM]) (by omega) (by rw [n2 _ _ (by decide), hC]) (by omega)
    have hdd : (4 : Int) - D - 1 + 1 = (4 : Int) - D := by omega
    have F1 : Fr (YF M C) s s1 := e5.mono (fun _ _ h => NX_YF h)
    cases hx : pTy T D (tP T k1) with
    | ok tq =>
      obtain ⟨t, q⟩ := tq
      rw [hx] at hy
      obtain ⟨s2, k2, tn, M', C', g1, g2, g3, g4, g5, g6, g7, g8, g9, g10, g11⟩ := hy
      rw [bd_ok]
      have hle2 := KS_le g2
      obtain ⟨a1, a2, a3, a4, a5, a6⟩ := fAdd_at (s := s2) (C := C') (n := n) (b := b) (t := tn)
      refine ⟨fAdd s2 C' n b tn, k2, tn, M', C', by rw [e1]; exact fd_tail (by omega) (by omega) e7 (by rw [hdd]; exact g1) g7 (by omega), KS_Y g2 ((fAdd_fr (M := M) (C := C) g8.2).mono (fun _ _ h => YF_X h)) (by rw [a6 _ _ (by omega)]; exact g2.2.2.2.1) hle2.2.2, g3, by omega, CT_put g5 (fun k j hk => a6 _ _ (by omega)), a1, a2, a3, a4, ⟨e6, e7⟩, by rw [a6 _ _ (by omega), g6], a5, g8, by omega, by omega, (F1.tr g11).tr (fAdd_fr g8.2)⟩
    | error f =>
      rw [hx] at hy
      rw [bd_er]
      rcases hy with ⟨s2, g1, g2, g3⟩ | ⟨s2, k2, v, C', g1, g2, g3, g4, g5, g6, g7, g8, g9⟩
      · exact Or.inl ⟨s2, by rw [e1]; exact fd_tailF (by omega) (by rw [hdd]; exact g1), g2, (F1.mono (fun _ _ h => YF_X h)).tr g3⟩
      · have hle2 := KS_le g2
        obtain ⟨a1, a2, a3, a4, a5, a6⟩ := fAdd_at (s := s2) (C := C') (n := n) (b := b) (t := v)
        have hlt := KS_lt g2 (by rw [g3]; omega)
        exact Or.inr ⟨fAdd s2 C' n b v, k2, C', by rw [e1]; exact fd_tail (by omega) (by omega) e7 (by rw [hdd]; exact g1) g5 (by omega), KS_Y g2 ((fAdd_fr (M := M) (C := C) g6).mono (fun _ _ h => YF_X h)) (by rw [a6 _ _ (by omega)]; exact g2.2.2.2.1) hle2.2.2, g3, g4, by omega, g6, by omega, (F1.tr g9).tr (fAdd_fr g6)⟩
theorem bu_first {d k u o i f : Nat} {T : Tx} {s s2 : Mem} {dp fi : Int} {l5 : AV} (h : KS s T u o k) (hi : i < 300) (e : Zc d 134 [aR 131, aI dp] (mu s 131 4 ((k : Int) + 1)) = rI f s2) : Ze d 133 29 [aR 131, aI dp, aI fi, aI (-1), aI i, l5] [] s = Ze d 133 7 [aR 131, aI dp, aI f, aI f, aI ((i + 1 : Nat) : Int), aI f] [] s2 := by
  have hn' : s 131 4 = k := h.2.2.2.1
  have hk2 := KS_le h
  rw [show ((i + 1 : Nat) : Int) = (i : Int) + 1 from rfl]
  simp (disch := first | exact obC_114 | exact obC_131 | omega | (simp only [aN1_123]; omega) | (simp only [List.length_cons, List.length_nil]; omega)) only [en133, x133_0, x133_1, x133_2, x133_3, x133_4, x133_5, x133_9, x133_12, x133_15, x133_17, x133_20, x133_21, x133_24, x133_26, x133_29, x133_30, x133_30i, x133_31, x133_34, x133_35, x133_36, x133_39, x133_40, x133_41, x133_44, x133_46, x133_48, x133_49, x133_52, x133_53, x133_54, x133_55, x133_56, x133_59, x133_61, x133_62, x133_65, x133_66, x133_69, x133_72, x133_73, x133_75, x133_76, x133_78, x133_79, x133_82, x133_85, x133_86, x133_88, x133_91, x133_94, x133_95, x133_98, x133_99, x133_102, x133_105, x133_106, fcn_114_9, fcn_131_1, if_true, if_false, eq_self, Int.reduceEq, Int.reduceLT, Int.reduceLE, Int.reduceAdd, Int.reduceSub, Int.reduceMul, Int.reduceToNat, Nat.reduceAdd, Nat.reduceMul, Nat.reduceEqDiff, Int.toNat_natCast, wrap_id, hn', e, zcI_r, if_neg (show ¬ ((f : Nat) : Int) = -1 by omega)]
theorem bu_next {d k u o i f la : Nat} {T : Tx} {s s2 : Mem} {dp fi : Int} {l5 : AV} (h : KS s T u o k) (hi : i < 300) (hla : la < 200) (e : Zc d 134 [aR 131, aI dp] (mu s 131 4 ((k : Int) + 1)) = rI f s2) : Ze d 133 29 [aR 131, aI dp, aI fi, aI la, aI i, l5] [] s = Ze d 133 7 [aR 131, aI dp, aI fi, aI f, aI ((i + 1 : Nat) : Int), aI f] [] (mu s2 123 la f) := by
  have hn' : s 131 4 = k := h.2.2.2.1
  have hk2 := KS_le h
  rw [show ((i + 1 : Nat) : Int) = (i : Int) + 1 from rfl]
  simp (disch := first | exact obC_114 | exact obC_131 | omega | (simp only [aN1_123]; omega) | (simp only [List.length_cons, List.length_nil]; omega)) only [en133, x133_0, x133_1, x133_2, x133_3, x133_4, x133_5, x133_9, x133_12, x133_15, x133_17, x133_20, x133_21, x133_24, x133_26, x133_29, x133_30, x133_30i, x133_31, x133_34, x133_35, x133_36, x133_39, x133_40, x133_41, x133_44, x133_46, x133_48, x133_49, x133_52, x133_53, x133_54, x133_55, x133_56, x133_59, x133_61, x133_62, x133_65, x133_66, x133_69, x133_72, x133_73, x133_75, x133_76, x133_78, x133_79, x133_82, x133_85, x133_86, x133_88, x133_91, x133_94, x133_95, x133_98, x133_99, x133_102, x133_105, x133_106, fcn_114_9, fcn_131_1, if_true, if_false, eq_self, Int.reduceEq, Int.reduceLT, Int.reduceLE, Int.reduceAdd, Int.reduceSub, Int.reduceMul, Int.reduceToNat, Nat.reduceAdd, Nat.reduceMul, Nat.reduceEqDiff, Int.toNat_natCast, wrap_id, hn', e, zcI_r, if_neg (show ¬ ((f : Nat) : Int) = -1 by omega), if_neg (show ¬ ((la : Nat) : Int) = -1 by omega)]
theorem bu_fail {d k u o : Nat} {T : Tx} {s s2 : Mem} {dp fi la i : Int} {l5 : AV} (h : KS s T u o k) (e : Zc d 134 [aR 131, aI dp] (mu s 131 4 ((k : Int) + 1)) = rI (-1) s2) : Ze d 133 29 [aR 131, aI dp, aI fi, aI la, aI i, l5] [] s = rI (-1) s2 := by
  have hn' : s 131 4 = k := h.2.2.2.1
  have hk2 := KS_le h
  simp (disch := first | exact obC_114 | exact obC_131 | omega | (simp only [aN1_123]; omega) | (simp only [List.length_cons, List.length_nil]; omega)) only [en133, x133_0, x133_1, x133_2, x133_3, x133_4, x133_5, x133_9, x133_12, x133_15, x133_17, x133_20, x133_21, x133_24, x133_26, x133_29, x133_30, x133_30i, x133_31, x133_34, x133_35, x133_36, x133_39, x133_40, x133_41, x133_44, x133_46, x133_48, x133_49, x133_52, x133_53, x133_54, x133_55, x133_56, x133_59, x133_61, x133_62, x133_65, x133_66, x133_69, x133_72, x133_73, x133_75, x133_76, x133_78, x133_79, x133_82, x133_85, x133_86, x133_88, x133_91, x133_94, x133_95, x133_98, x133_99, x133_102, x133_105, x133_106, fcn_114_9, fcn_131_1, if_true, if_false, eq_self, Int.reduceEq, Int.reduceLT, Int.reduceLE, Int.reduceAdd, Int.reduceSub, Int.reduceMul, Int.reduceToNat, Nat.reduceAdd, Nat.reduceMul, Nat.reduceEqDiff, Int.toNat_natCast, wrap_id, hn', e, zcI_r]
theorem bu_more {d k u o i : Nat} {T : Tx} {s : Mem} {dp fi la : Int} {l5 : AV} (hd : 1 ≤ d) (h : KS s T u o k) (hi : 1 ≤ i ∧ i < 200) (hc : cA T (tP T k) = 44) : Ze d 133 7 [aR 131, aI dp, aI fi, aI la, aI i, l5] [] s = Ze d 133 29 [aR 131, aI dp, aI fi, aI la, aI i, l5] [] s := by
  have hk : s 111 k = 44 := (KS_ch h (by decide)).mpr hc
  rw [x133_7]
  simp (disch := first | exact obC_114 | exact obC_131 | omega | (simp only [aN1_123]; omega) | (simp only [List.length_cons, List.length_nil]; omega)) only [en133, x133_0, x133_1, x133_2, x133_3, x133_4, x133_5, x133_9, x133_12, x133_15, x133_17, x133_20, x133_21, x133_24, x133_26, x133_30, x133_30i, x133_31, x133_34, x133_35, x133_36, x133_39, x133_40, x133_41, x133_44, x133_46, x133_48, x133_49, x133_52, x133_53, x133_54, x133_55, x133_56, x133_59, x133_61, x133_62, x133_65, x133_66, x133_69, x133_72, x133_73, x133_75, x133_76, x133_78, x133_79, x133_82, x133_85, x133_86, x133_88, x133_91, x133_94, x133_95, x133_98, x133_99, x133_102, x133_105, x133_106, fcn_114_9, fcn_131_1, if_true, if_false, eq_self, Int.reduceEq, Int.reduceLT, Int.reduceLE, Int.reduceAdd, Int.reduceSub, Int.reduceMul, Int.reduceToNat, Nat.reduceAdd, Nat.reduceMul, Nat.reduceEqDiff, Int.toNat_natCast, wrap_id, if_pos (show (i : Int) < 200 by omega), if_neg (show ¬ ((i : Nat) : Int) = 0 by omega), kt_kind hd h, zcI_r, hk]
theorem bu_done {d k u o i : Nat} {T : Tx} {s : Mem} {dp fi la : Int} {l5 : AV} (hd : 1 ≤ d) (h : KS s T u o k) (hi : 1 ≤ i) (hc : ¬ cA T (tP T k) = 44) : Ze d 133 7 [aR 131, aI dp, aI fi, aI la, aI i, l5] [] s = Ze d 133 85 [aR 131, aI dp, aI fi, aI la, aI i, l5] [] s := by
  have hk : ¬ s 111 k = 44 := fun z => hc ((KS_ch h (by decide)).mp z)
  rw [x133_7]
  by_cases h2 : (i : Int) < 200
  · simp (disch := first | exact obC_114 | exact obC_131 | omega | (simp only [aN1_123]; omega) | (simp only [List.length_cons, List.length_nil]; omega)) only [en133, x133_0, x133_1, x133_2, x133_3, x133_4, x133_5, x133_9, x133_12, x133_15, x133_17, x133_20, x133_21, x133_24, x133_26, x133_29, x133_30, x133_30i, x133_31, x133_34, x133_35, x133_36, x133_39, x133_40, x133_41, x133_44, x133_46, x133_48, x133_49, x133_52, x133_53, x133_54, x133_55, x133_56, x133_59, x133_61, x133_62, x133_65, x133_66, x133_69, x133_72, x133_73, x133_75, x133_76, x133_78, x133_79, x133_82, x133_86, x133_88, x133_91, x133_94, x133_95, x133_98, x133_99, x133_102, x133_105, x133_106, fcn_114_9, fcn_131_1, if_true, if_false, eq_self, Int.reduceEq, Int.reduceLT, Int.reduceLE, Int.reduceAdd, Int.reduceSub, Int.reduceMul, Int.reduceToNat, Nat.reduceAdd, Nat.reduceMul, Nat.reduceEqDiff, Int.toNat_natCast, wrap_id, if_pos h2, if_neg (show ¬ ((i : Nat) : Int) = 0 by omega), kt_kind hd h, zcI_r, if_neg hk]
  · simp (disch := first | exact obC_114 | exact obC_131 | omega | (simp only [aN1_123]; omega) | (simp only [List.length_cons, List.length_nil]; omega)) only [en133, x133_0, x133_1, x133_2, x133_3, x133_4, x133_5, x133_9, x133_12, x133_15, x133_17, x133_20, x133_21, x133_24, x133_26, x133_29, x133_30, x133_30i, x133_31, x133_34, x133_35, x133_36, x133_39, x133_40, x133_41, x133_44, x133_46, x133_48, x133_49, x133_52, x133_53, x133_54, x133_55, x133_56, x133_59, x133_61, x133_62, x133_65, x133_66, x133_69, x133_72, x133_73, x133_75, x133_76, x133_78, x133_79, x133_82, x133_86, x133_88, x133_91, x133_94, x133_95, x133_98, x133_99, x133_102, x133_105, x133_106, fcn_114_9, fcn_131_1, if_true, if_false, eq_self, Int.reduceEq, Int.reduceLT, Int.reduceLE, Int.reduceAdd, Int.reduceSub, Int.reduceMul, Int.reduceToNat, Nat.reduceAdd, Nat.reduceMul, Nat.reduceEqDiff, Int.toNat_natCast, wrap_id, if_neg h2]
/-- what a bundle's fields leave, la being the last one before them -/
def BF (M C : Nat) (la : Int) (k j : Nat) : Prop := YF M C k j ∨ (k = 123 ∧ (j : Int) = la)
def BFX (M C : Nat) (la : Int) (k j : Nat) : Prop := YFX M C k j ∨ (k = 123 ∧ (j : Int) = la)
theorem BF_X {M C k j : Nat} {la : Int} (h : BF M C la k j) : BFX M C la k j := h.elim (fun h => Or.inl (YF_X h)) Or.inr
theorem BF_sub {M C M' f k j : Nat} {la : Int} (h1 : M ≤ M') (h2 : C ≤ f) (h : BF M' (f + 1) f k j) : BF M C la k j := by
  rcases h with h | h
  · exact Or.inl (YF_le h1 (by omega) h)
  · exact Or.inl (Or.inr (Or.inr (Or.inr ⟨by omega, by omega, by omega⟩)))
theorem BFX_sub {M C M' f k j : Nat} {la : Int} (h1 : M ≤ M') (h2 : C ≤ f) (h : BFX M' (f + 1) f k j) : BFX M C la k j := by
  rcases h with h | h
  · exact Or.inl (YFX_le h1 (by omega) h)
  · exact Or.inl (YF_X (Or.inr (Or.inr (Or.inr ⟨by omega, by omega, by omega⟩))))
def BO (d : Nat) (T : Tx) (u o k M C : Nat) (dp fi la : Int) (s : Mem) (Z : Option Res) (x : PR Jvm.Term) : Prop := match x with
  | .ok (fs, q) => ∃ (s' : Mem) (k' M' C' f la' i' : Nat) (l5 : AV), Z = Ze d 133 85 [aR 131, aI dp, aI (if la = -1 then (f : Int) else fi), aI la', aI i', l5] [] s' ∧ KS s' T u o k' ∧ cA T (tP T k') = 125 ∧ q = sk T (tP T k' + 1) ∧ k + 1 ≤ k' ∧ CC s' fs f M' C C' ∧ (0 ≤ la → s' 123 la.toNat = f) ∧ 1 ≤ tsz fs ∧ s' 114 4 = M' ∧ s' 114 10 = C' ∧ (M ≤ M' ∧ C ≤ C') ∧ M' + k ≤ M + k' ∧ C' + k ≤ C + k' ∧ Fr (BF M C la) s s'
  | .error e => ∃ s', Z = rI (-1) s' ∧ s' 131 5 = e ∧ Fr (BFX M C la) s s'
theorem bu_junk {d k u o i : Nat} {T : Tx} {s : Mem} {dp fi la : Int} {l5 : AV} (hd : 2 ≤ d) (h : KS s T u o k) (hi : 1 ≤ i) (h44 : ¬ cA T (tP T k) = 44) (h125 : ¬ cA T (tP T k) = 125) : Ze d 133 7 [aR 131, aI dp, aI fi, aI la, aI i, l5] [] s = rI (-1) (mu s 131 5 (tP T k)) := by
  rw [bu_done (by omega) h hi h44]
  simp (disch := first | exact obC_114 | exact obC_131 | omega | (simp only [aN1_123]; omega) | (simp only [List.length_cons, List.length_nil]; omega)) only [en133, x133_0, x133_1, x133_2, x133_3, x133_4, x133_5, x133_9, x133_12, x133_15, x133_17, x133_20, x133_21, x133_24, x133_26, x133_29, x133_30, x133_30i, x133_31, x133_34, x133_35, x133_36, x133_39, x133_40, x133_41, x133_44, x133_46, x133_48, x133_49, x133_52, x133_53, x133_54, x133_55, x133_56, x133_59, x133_61, x133_62, x133_65, x133_66, x133_69, x133_72, x133_73, x133_75, x133_76, x133_78, x133_79, x133_82, x133_85, x133_86, x133_88, x133_91, x133_94, x133_95, x133_98, x133_99, x133_102, x133_105, x133_106, fcn_114_9, fcn_131_1, if_true, if_false, eq_self, Int.reduceEq, Int.reduceLT, Int.reduceLE, Int.reduceAdd, Int.reduceSub, Int.reduceMul, Int.reduceToNat, Nat.reduceAdd, Nat.reduceMul, Nat.reduceEqDiff, Int.toNat_natCast, wrap_id, kt_takeE hd h (c := 125) (by decide) h125, zcI_r]
