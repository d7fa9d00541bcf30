/-! THE CLASS: text -/
theorem lti {d : Nat} {w : Int} {s : Mem} {l1 : AV} : ∀ (m K : Nat) (l4 : AV), K + m ≤ 8 → Ze d 75 5 [aL w, l1, aI K, aI (8 * (m : Int) - 8), l4] [] s = rI (if (btl w m).all okc = true then ((K + (btl w m).length : Nat) : Int) else -1) s := by
  intro m
  induction m with
  | zero =>
    intro K l4 hK
    rw [show btl w 0 = [] from rfl, show (8 * ((0 : Nat) : Int) - 8) = -8 from rfl, if_pos (show ([] : List Int).all okc = true from rfl), List.length_nil, Nat.add_zero, x75_5]
    simp (disch := first | exact obC_0 | omega | (simp only [List.length_cons, List.length_nil]; omega)) only [en75, x75_0, x75_1, x75_2, x75_4, x75_6, x75_9, x75_10, x75_11, x75_12, x75_13, x75_16, x75_17, x75_19, x75_21, x75_24, x75_26, x75_28, x75_31, x75_33, x75_35, x75_38, x75_39, x75_40, x75_43, x75_46, x75_49, x75_50, if_true, if_false, eq_self, Int.reduceEq, Int.reduceLT, Int.reduceLE, Int.reduceAdd, Int.reduceSub, Int.reduceMul, Int.reduceToNat, Nat.reduceAdd, Nat.reduceMul, Nat.reduceEqDiff, Int.toNat_natCast, wrap_id, if_pos (show (-8 : Int) < 0 by decide)]
  | succ m ih =>
    intro K l4 hK
    have e1 : 8 * ((m + 1 : Nat) : Int) - 8 = ((8 * m : Nat) : Int) := by omega
    have e2 : ((8 * m : Nat) : Int) + -8 = 8 * (m : Int) - 8 := by omega
    have hy : iand (l2iZ (lushrZ w ((8 * m : Nat) : Int))) 255 = yb w m := lu_ls (by omega)
    have hb : btl w (m + 1) = if yb w m = 0 then btl w m else yb w m :: btl w m := rfl
    rw [hb]
    by_cases h0 : yb w m = 0
    · rw [if_pos h0, ← ih K (aI 0) (by omega), e1, ← e2, x75_5]
      rw [h0] at hy
      simp (disch := first | exact obC_0 | omega | (simp only [List.length_cons, List.length_nil]; omega)) only [en75, x75_0, x75_1, x75_2, x75_4, x75_6, x75_9, x75_10, x75_11, x75_12, x75_13, x75_16, x75_17, x75_19, x75_21, x75_24, x75_26, x75_28, x75_31, x75_33, x75_35, x75_38, x75_39, x75_40, x75_43, x75_46, x75_49, x75_50, if_true, if_false, eq_self, Int.reduceEq, Int.reduceLT, Int.reduceLE, Int.reduceAdd, Int.reduceSub, Int.reduceMul, Int.reduceToNat, Nat.reduceAdd, Nat.reduceMul, Nat.reduceEqDiff, Int.toNat_natCast, wrap_id, hy, if_neg (show ¬ ((8 * m : Nat) : Int) < 0 by omega)]
    · rw [if_neg h0, List.length_cons, List.all_cons]
      generalize yb w m = v at *
      by_cases hg : 32 ≤ v ∧ v ≤ 126
      · rw [show okc v = true from decide_eq_true hg, Bool.true_and, show K + ((btl w m).length + 1) = K + 1 + (btl w m).length by omega, ← ih (K + 1) (aI v) (by omega), e1, ← e2, show ((K + 1 : Nat) : Int) = (K : Int) + 1 from rfl, x75_5]
        simp (disch := first | exact obC_0 | omega | (simp only [List.length_cons, List.length_nil]; omega)) only [en75, x75_0, x75_1, x75_2, x75_4, x75_6, x75_9, x75_10, x75_11, x75_12, x75_13, x75_16, x75_17, x75_19, x75_21, x75_24, x75_26, x75_28, x75_31, x75_33, x75_35, x75_38, x75_39, x75_40, x75_43, x75_46, x75_49, x75_50, if_true, if_false, eq_self, Int.reduceEq, Int.reduceLT, Int.reduceLE, Int.reduceAdd, Int.reduceSub, Int.reduceMul, Int.reduceToNat, Nat.reduceAdd, Nat.reduceMul, Nat.reduceEqDiff, Int.toNat_natCast, wrap_id, hy, if_neg h0, if_neg (show ¬ ((8 * m : Nat) : Int) < 0 by omega), if_neg (show ¬ v < 32 by omega), if_neg (show ¬ 126 < v by omega)]
      · rw [show okc v = false from decide_eq_false hg, Bool.false_and, if_neg (show ¬ false = true by decide), e1, x75_5]
        by_cases h32 : v < 32
        · simp (disch := first | exact obC_0 | omega | (simp only [List.length_cons, List.length_nil]; omega)) only [en75, x75_0, x75_1, x75_2, x75_4, x75_6, x75_9, x75_10, x75_11, x75_12, x75_13, x75_16, x75_17, x75_19, x75_21, x75_24, x75_26, x75_28, x75_31, x75_33, x75_35, x75_38, x75_39, x75_40, x75_43, x75_46, x75_49, x75_50, if_true, if_false, eq_self, Int.reduceEq, Int.reduceLT, Int.reduceLE, Int.reduceAdd, Int.reduceSub, Int.reduceMul, Int.reduceToNat, Nat.reduceAdd, Nat.reduceMul, Nat.reduceEqDiff, Int.toNat_natCast, wrap_id, hy, if_neg h0, if_neg (show ¬ ((8 * m : Nat) : Int) < 0 by omega), if_pos h32]
        · simp (disch := first | exact obC_0 | omega | (simp only [List.length_cons, List.length_nil]; omega)) only [en75, x75_0, x75_1, x75_2, x75_4, x75_6, x75_9, x75_10, x75_11, x75_12, x75_13, x75_16, x75_17, x75_19, x75_21, x75_24, x75_26, x75_28, x75_31, x75_33, x75_35, x75_38, x75_39, x75_40, x75_43, x75_46, x75_49, x75_50, if_true, if_false, eq_self, Int.reduceEq, Int.reduceLT, Int.reduceLE, Int.reduceAdd, Int.reduceSub, Int.reduceMul, Int.reduceToNat, Nat.reduceAdd, Nat.reduceMul, Nat.reduceEqDiff, Int.toNat_natCast, wrap_id, hy, if_neg h0, if_neg (show ¬ ((8 * m : Nat) : Int) < 0 by omega), if_neg h32, if_pos (show 126 < v by omega)]
theorem k_lettersIn {d : Nat} {w : Int} {s : Mem} (hd : 1 ≤ d) : Zc d 75 [aL w] s = rI (if (btl w 8).all okc = true then (((btl w 8).length : Nat) : Int) else -1) s := by
  obtain ⟨d, rfl⟩ : ∃ e, d = e + 1 := ⟨d - 1, by omega⟩
  have h := lti (d := d) (w := w) (s := s) (l1 := aU) 8 0 aU (by decide)
  rw [Nat.zero_add] at h
  rw [← h]
  have e8 : 8 * ((8 : Nat) : Int) - 8 = 56 := by decide
  have z0 : ((0 : Nat) : Int) = 0 := rfl
  rw [e8, z0]
  simp (disch := first | exact obC_0 | omega | (simp only [List.length_cons, List.length_nil]; omega)) only [en75, x75_0, x75_1, x75_2, x75_4, x75_6, x75_9, x75_10, x75_11, x75_12, x75_13, x75_16, x75_17, x75_19, x75_21, x75_24, x75_26, x75_28, x75_31, x75_33, x75_35, x75_38, x75_39, x75_40, x75_43, x75_46, x75_49, x75_50, if_true, if_false, eq_self, Int.reduceEq, Int.reduceLT, Int.reduceLE, Int.reduceAdd, Int.reduceSub, Int.reduceMul, Int.reduceToNat, Nat.reduceAdd, Nat.reduceMul, Nat.reduceEqDiff, Int.toNat_natCast, wrap_id]
