/-! THE CLASS: text -/
theorem lti {d : Nat} {w : Int} {s : Mem} {l1 : AV} : ∀ (m K : Nat) (l4 : AV), K + m ≤ 8 → Ze d 75 5 [aL w, l1, aI K, aI (8 * (m : Int) - 8), l4] [] s = rI (if (btl w m).all okc = true then ((K + (btl w m).length : Nat) : Int) else -1) s := by
  intro m
  induction m with
  | zero =>
    intro K l4 hK
    rw [show btl w 0 = [] from rfl, show (8 * ((0 : Nat) : Int) - 8) = -8 from rfl, if_pos (show ([] : List Int).all okc = true from rfl), List.length_nil, Nat.add_zero, x75_5]
    simp (disch := first | exact obC_0 | omega | (simp only [List.length_cons, List.length_nil]; omega)) only [en75, x75_0, x75_1, x75_2, x75_4, x75_6, x75_9, x75_10, x75_11, x75_12, x75_13, x75_16, x75_17, x75_19, x75_21, x75_24, x75_26, x75_28, x75_31, x75_33, x75_35, x75_38, x75_39, x75_40, x75_43, x75_46, x75_49, x75_50, if_true, if_false, eq_self, Int.reduceEq, Int.reduceLT, Int.reduceLE, Int.reduceAdd, Int.reduceSub, Int.reduceMul, Int.reduceToNat, Nat.reduceAdd, Nat.reduceMul, Nat.reduceEqDiff, Int.toNat_natCast, wrap_id, if_pos (show (-8 : Int) < 0 by decide)]
  | succ m ih =>
    intro K l4 hK
    have e1 : 8 * ((m + 1 : Nat) : Int) - 8 = ((8 * m : Nat) : Int) := by omega
    have e2 : ((8 * m : Nat) : Int) + -8 = 8 * (m : Int) - 8 := by omega
    have hy : iand (l2iZ (lushrZ w ((8 * m : Nat) : Int))) 255 = yb w m := lu_ls (by omega)
    have hb : btl w (m + 1) = if yb w m = 0 then btl w m else yb w m :: btl w m := rfl
    rw [hb]
    by_cases h0 : yb w m = 0
    · rw [if_pos h0, ← ih K (aI 0) (by omega), e1, ← e2, x75_5]
      rw [h0] at hy
      simp (disch := first | exact obC_0 | omega | (simp only [List.length_cons, List.length_nil]; omega)) only [en75, x75_0, x75_1, x75_2, x75_4, x75_6, x75_9, x75_10, x75_11, x75_12, x75_13, x75_16, x75_17, x75_19, x75_21, x75_24, x75_26, x75_28, x75_31, x75_33, x75_35, x75_38, x75_39, x75_40, x75_43, x75_46, x75_49, x75_50, if_true, if_false, eq_self, Int.reduceEq, Int.reduceLT, Int.reduceLE, Int.reduceAdd, Int.reduceSub, Int.reduceMul, Int.reduceToNat, Nat.reduceAdd, Nat.reduceMul, Nat.reduceEqDiff, Int.toNat_natCast, wrap_id, hy, if_neg (show ¬ ((8 * m : Nat) : Int) < 0 by omega)]
    · rw [if_neg h0, List.length_cons, List.all_cons]
      generalize yb w m = v at *
      by_cases hg : 32 ≤ v ∧ v ≤ 126
      · rw [show okc v = true from decide_eq_true hg, Bool.true_and, show K + ((btl w m).length + 1) = K + 1 + (btl w m).length by omega, ← ih (K + 1) (aI v) (by omega), e1, ← e2, show ((K + 1 : Nat) : Int) = (K : Int) + 1 from rfl, x75_5]
        simp (disch := first | exact obC_0 | omega | (simp only [List.length_cons, List.length_nil]; omega)) only [en75, x75_0, x75_1, x75_2, x75_4, x75_6, x75_9, x75_10, x75_11, x75_12, x75_13, x75_16, x75_17, x75_19, x75_21, x75_24, x75_26, x75_28, x75_31, x75_33, x75_35, x75_38, x75_39, x75_40, x75_43, x75_46, x75_49, x75_50, if_true, if_false, eq_self, Int.reduceEq, Int.reduceLT, Int.reduceLE, Int.reduceAdd, Int.reduceSub, Int.reduceMul, Int.reduceToNat, Nat.reduceAdd, Nat.reduceMul, Nat.reduceEqDiff, Int.toNat_natCast, wrap_id, hy, if_neg h0, if_neg (show ¬ ((8 * m : Nat) : Int) < 0 by omega), if_neg (show ¬ v < 32 by omega), if_neg (show ¬ 126 < v by omega)]
      · rw [show okc v = false from decide_eq_false hg, Bool.false_and, if_neg (show ¬ false = true by decide), e1, x75_5]
        by_cases h32 : v < 32
        · simp (disch := first | exact obC_0 | omega | (simp only [List.length_cons, List.length_nil]; omega)) only [en75, x75_0, x75_1, x75_2, x75_4, x75_6, x75_9, x75_10, x75_11, x75_12, x75_13, x75_16, x75_17, x75_19, x75_21, x75_24, x75_26, x75_28, x75_31, x75_33, x75_35, x75_38, x75_39, x75_40, x75_43, x75_46, x75_49, x75_50, if_true, if_false, eq_self, Int.reduceEq, Int.reduceLT, Int.reduceLE, Int.reduceAdd, Int.reduceSub, Int.reduceMul, Int.reduceToNat, Nat.reduceAdd, Nat.reduceMul, Nat.reduceEqDiff, Int.toNat_natCast, wrap_id, hy, if_neg h0, if_neg (show ¬ ((8 * m : Nat) : Int) < 0 by omega), if_pos h32]
        · simp (disch := first | exact obC_0 | omega | (simp only [List.length_cons, List.length_nil]; omega)) only [en75, x75_0, x75_1, x75_2, x75_4, x75_6, x75_9, x75_10, x75_11, x75_12, x75_13, x75_16, x75_17, x75_19, x75_21, x75_24, x75_26, x75_28, x75_31, x75_33, x75_35, x75_38, x75_39, x75_40, x75_43, x75_46, x75_49, x75_50, if_true, if_false, eq_self, Int.reduceEq, Int.reduceLT, Int.reduceLE, Int.reduceAdd, Int.reduceSub, Int.reduceMul, Int.reduceToNat, Nat.reduceAdd, Nat.reduceMul, Nat.reduceEqDiff, Int.toNat_natCast, wrap_id, hy, if_neg h0, if_neg (show ¬ ((8 * m : Nat) : Int) < 0 by omega), if_neg h32, if_pos (show 126 < v by omega)]
theorem k_lettersIn {d : Nat} {w : Int} {s : Mem} (hd : 1 ≤ d) : Zc d 75 [aL w] s = rI (if (btl w 8).all okc = true then (((btl w 8).length : Nat) : Int) else -1) s := by
  obtain ⟨d, rfl⟩ : ∃ e, d = e + 1 := ⟨d - 1, by omega⟩
  have h := lti (d := d) (w := w) (s := s) (l1 := aU) 8 0 aU (by decide)
  rw [Nat.zero_add] at h
  rw [← h]
  have e8 : 8 * ((8 : Nat) : Int) - 8 = 56 := by decide
  have z0 : ((0 : Nat) : Int) = 0 := rfl
  rw [e8, z0]
  simp (disch := first | exact obC_0 | omega | (simp only [List.length_cons, List.length_nil]; omega)) only [en75, x75_0, x75_1, x75_2, x75_4, x75_6, x75_9, x75_10, x75_11, x75_12, x75_13, x75_16, x75_17, x75_19, x75_21, x75_24, x75_26, x75_28, x75_31, x75_33, x75_35, x75_38, x75_39, x75_40, x75_43, x75_46, x75_49, x75_50, if_true, if_false, eq_self, Int.reduceEq, Int.reduceLT, Int.reduceLE, Int.reduceAdd, Int.reduceSub, Int.reduceMul, Int.reduceToNat, Nat.reduceAdd, Nat.reduceMul, Nat.reduceEqDiff, Int.toNat_natCast, wrap_id]
theorem i2c_id {v : Int} (h0 : 0 ≤ v) (h1 : v < 65536) : i2cZ v = v := by
  rw [i2cZ_def]
  omega
def TXC (k j : Nat) : Prop := k = 57 ∨ (k = 56 ∧ j = 1)
theorem ltt {d : Nat} {w : Int} (l2 l3 : AV) : ∀ (m n : Nat) (s : Mem) (l5 : AV), m ≤ 8 → n + (btl w m).length ≤ 200 → (btl w m).all okc = true → s 56 1 = n → ∃ s', Ze d 64 46 [aR 56, aL w, l2, l3, aI (8 * (m : Int) - 8), l5] [] s = rI ((n + (btl w m).length : Nat) : Int) s' ∧ s' 56 1 = ((n + (btl w m).length : Nat) : Int) ∧ (∀ (i : Nat) (v : Int), (btl w m)[i]? = some v → s' 57 (n + i) = v) ∧ (∀ j, j < n → s' 57 j = s 57 j) ∧ Fr TXC s s' := by
  intro m
  induction m with
  | zero =>
    intro n s l5 hm8 hn ho hs
    refine ⟨s, ?_, by rw [hs]; rfl, fun i v h => (nomatch h), fun _ _ => rfl, Fr.rf s⟩
    rw [show (8 * ((0 : Nat) : Int) - 8) = -8 from rfl, x64_46]
    simp (disch := first | exact obC_56 | omega | (simp only [aN3_57]; omega) | (simp only [List.length_cons, List.length_nil]; omega)) only [en64, x64_0, x64_1, x64_4, x64_5, x64_6, x64_7, x64_10, x64_20, x64_21, x64_24, x64_25, x64_26, x64_29, x64_32, x64_42, x64_44, x64_48, x64_51, x64_52, x64_54, x64_55, x64_56, x64_59, x64_60, x64_62, x64_64, x64_67, x64_68, x64_71, x64_74, x64_77, x64_78, x64_81, x64_82, x64_85, x64_87, x64_88, x64_89, x64_90, x64_90i, x64_91, x64_94, x64_95, x64_96, x64_99, x64_102, x64_105, x64_106, x64_109, fcn_56_0, if_true, if_false, eq_self, Int.reduceEq, Int.reduceLT, Int.reduceLE, Int.reduceAdd, Int.reduceSub, Int.reduceMul, Int.reduceToNat, Nat.reduceAdd, Nat.reduceMul, Nat.reduceEqDiff, Int.toNat_natCast, wrap_id, hs, if_pos (show (-8 : Int) < 0 by decide)]
    rfl
  | succ m ih =>
    intro n s l5 hm8 hn ho hs
    have e1 : 8 * ((m + 1 : Nat) : Int) - 8 = ((8 * m : Nat) : Int) := by omega
    have e2 : ((8 * m : Nat) : Int) + -8 = 8 * (m : Int) - 8 := by omega
    have hy : iand (l2iZ (lushrZ w ((8 * m : Nat) : Int))) 255 = yb w m := lu_ls (by omega)
    have hbe : btl w (m + 1) = if yb w m = 0 then btl w m else yb w m :: btl w m := rfl
    by_cases h0 : yb w m = 0
    · rw [hbe, if_pos h0] at hn ho ⊢
      obtain ⟨s', q, q2⟩ := ih n s (aI 0) (by omega) hn ho hs
      refine ⟨s', Eq.trans ?_ q, q2⟩
      rw [e1, ← e2, x64_46]
      rw [h0] at hy
      simp (disch := first | exact obC_56 | omega | (simp only [aN3_57]; omega) | (simp only [List.length_cons, List.length_nil]; omega)) only [en64, x64_0, x64_1, x64_4, x64_5, x64_6, x64_7, x64_10, x64_20, x64_21, x64_24, x64_25, x64_26, x64_29, x64_32, x64_42, x64_44, x64_48, x64_51, x64_52, x64_54, x64_55, x64_56, x64_59, x64_60, x64_62, x64_64, x64_67, x64_68, x64_71, x64_74, x64_77, x64_78, x64_81, x64_82, x64_85, x64_87, x64_88, x64_89, x64_90, x64_90i, x64_91, x64_94, x64_95, x64_96, x64_99, x64_102, x64_105, x64_106, x64_109, fcn_56_0, if_true, if_false, eq_self, Int.reduceEq, Int.reduceLT, Int.reduceLE, Int.reduceAdd, Int.reduceSub, Int.reduceMul, Int.reduceToNat, Nat.reduceAdd, Nat.reduceMul, Nat.reduceEqDiff, Int.toNat_natCast, wrap_id, hy, if_neg (show ¬ ((8 * m : Nat) : Int) < 0 by omega)]
    · rw [hbe, if_neg h0] at hn ho ⊢
      rw [List.length_cons] at hn
      rw [List.all_cons, Bool.and_eq_true] at ho
      generalize yb w m = v at *
      have hv : 32 ≤ v ∧ v ≤ 126 := of_decide_eq_true ho.1
      have hi2 : i2cZ v = v := i2c_id (by omega) (by omega)
      generalize hs1 : mu (mu s 57 n v) 56 1 ((n : Int) + 1) = s1
      have F1 : Fr TXC s s1 := by rw [← hs1]; exact ((Fr.rf s).mu (Or.inl rfl)).mu (Or.inr ⟨rfl, rfl⟩)
      obtain ⟨s', q1, q2, q3, q4, q5⟩ := ih (n + 1) s1 (aI v) (by omega) (by omega) ho.2 (by rw [← hs1, mu_s]; rfl)
      refine ⟨s', ?_, by rw [q2, List.length_cons]; congr 1; omega, fun i u hi => ?_, fun j hj => ?_, F1.tr q5⟩
      · rw [List.length_cons, show n + ((btl w m).length + 1) = n + 1 + (btl w m).length by omega, ← q1, e1, ← e2, x64_46]
        simp (disch := first | exact obC_56 | omega | (simp only [aN3_57]; omega) | (simp only [List.length_cons, List.length_nil]; omega)) only [en64, x64_0, x64_1, x64_4, x64_5, x64_6, x64_7, x64_10, x64_20, x64_21, x64_24, x64_25, x64_26, x64_29, x64_32, x64_42, x64_44, x64_48, x64_51, x64_52, x64_54, x64_55, x64_56, x64_59, x64_60, x64_62, x64_64, x64_67, x64_68, x64_71, x64_74, x64_77, x64_78, x64_81, x64_82, x64_85, x64_87, x64_88, x64_89, x64_90, x64_90i, x64_91, x64_94, x64_95, x64_96, x64_99, x64_102, x64_105, x64_106, x64_109, fcn_56_0, if_true, if_false, eq_self, Int.reduceEq, Int.reduceLT, Int.reduceLE, Int.reduceAdd, Int.reduceSub, Int.reduceMul, Int.reduceToNat, Nat.reduceAdd, Nat.reduceMul, Nat.reduceEqDiff, Int.toNat_natCast, wrap_id, hy, if_neg h0, hs, mu_c, hs1, hi2, if_neg (show ¬ ((8 * m : Nat) : Int) < 0 by omega), if_pos (show (n : Int) < 200 by omega)]
      · cases i with
        | zero =>
          rw [List.getElem?_cons_zero] at hi
          cases hi
          rw [Nat.add_zero, q4 n (Nat.lt_succ_self _), ← hs1, mu_c (by decide), mu_s]
        | succ i =>
          rw [List.getElem?_cons_succ] at hi
          have := q3 i u hi
          rw [show n + 1 + i = n + (i + 1) by omega] at this
          exact this
      · rw [q4 j (by omega), ← hs1, mu_c (by decide), mu_i (by omega)]
