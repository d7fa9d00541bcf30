/-! THE CLASS: the other methods -/
theorem k_has {d o L : Nat} {k : Int} {s : Mem} (hd : 1 ≤ d) (ho : o = 0 ∨ o = 26) (hu : s (59 + o) 6 = L) : (0 ≤ k ∧ k < L → Zc d 90 [aR (58 + o), aI k] s = rI 1 s) ∧ (¬ (0 ≤ k ∧ k < L) → Zc d 90 [aR (58 + o), aI k] s = rI 0 s) := by
  obtain ⟨d, rfl⟩ : ∃ e, d = e + 1 := ⟨d - 1, by omega⟩
  refine ⟨fun h => ?_, fun h => ?_⟩
  · simp (disch := first | exact (obCO_58 ho) | exact (obCO_59 ho) | omega | (simp only [List.length_cons, List.length_nil]; omega)) only [en90, x90_0, x90_1, x90_4, x90_5, x90_6, x90_9, x90_12, x90_15, x90_16, x90_19, x90_20, (fcnO_58_0 ho), if_true, if_false, eq_self, Int.reduceEq, Int.reduceLT, Int.reduceLE, Int.reduceAdd, Int.reduceSub, Int.reduceMul, Int.reduceToNat, Nat.reduceAdd, Nat.reduceMul, Nat.reduceEqDiff, Int.toNat_natCast, wrap_id, hu, if_neg (show ¬ k < 0 by omega), if_pos (show k < (L : Int) by omega)]
  · by_cases h0 : k < 0
    · simp (disch := first | exact (obCO_58 ho) | exact (obCO_59 ho) | omega | (simp only [List.length_cons, List.length_nil]; omega)) only [en90, x90_0, x90_1, x90_4, x90_5, x90_6, x90_9, x90_12, x90_15, x90_16, x90_19, x90_20, (fcnO_58_0 ho), if_true, if_false, eq_self, Int.reduceEq, Int.reduceLT, Int.reduceLE, Int.reduceAdd, Int.reduceSub, Int.reduceMul, Int.reduceToNat, Nat.reduceAdd, Nat.reduceMul, Nat.reduceEqDiff, Int.toNat_natCast, wrap_id, hu, if_pos h0]
    · simp (disch := first | exact (obCO_58 ho) | exact (obCO_59 ho) | omega | (simp only [List.length_cons, List.length_nil]; omega)) only [en90, x90_0, x90_1, x90_4, x90_5, x90_6, x90_9, x90_12, x90_15, x90_16, x90_19, x90_20, (fcnO_58_0 ho), if_true, if_false, eq_self, Int.reduceEq, Int.reduceLT, Int.reduceLE, Int.reduceAdd, Int.reduceSub, Int.reduceMul, Int.reduceToNat, Nat.reduceAdd, Nat.reduceMul, Nat.reduceEqDiff, Int.toNat_natCast, wrap_id, hu, if_neg h0, if_neg (show ¬ k < (L : Int) by omega)]
theorem k_whereK {d : Nat} {T : Tx} {w : Int} {cp : Bool} {lv : Live} {st val bf ch : Nat → Int} {ck cn : Int} {o N K : Nat} {l : List Nat} {s : Mem} (hd : 1 ≤ d) (h : RK s T w cp lv st val bf ch ck cn o N K l) : Zc d 67 [aR 56] s = rI w s := by
  obtain ⟨d, rfl⟩ : ∃ e, d = e + 1 := ⟨d - 1, by omega⟩
  have hw := h.2.1
  simp (disch := first | exact obC_56 | omega | (simp only [List.length_cons, List.length_nil]; omega)) only [en67, x67_0, x67_1, x67_4, if_true, if_false, eq_self, Int.reduceEq, Int.reduceLT, Int.reduceLE, Int.reduceAdd, Int.reduceSub, Int.reduceMul, Int.reduceToNat, Nat.reduceAdd, Nat.reduceMul, Nat.reduceEqDiff, Int.toNat_natCast, wrap_id, hw]
theorem k_clearK {d : Nat} {T : Tx} {w : Int} {cp : Bool} {lv : Live} {st val bf ch : Nat → Int} {ck cn : Int} {o N K : Nat} {l : List Nat} {s : Mem} (hd : 1 ≤ d) (h : RK s T w cp lv st val bf ch ck cn o N K l) : ∃ s', Zc d 65 [aR 56] s = rI (T.2 : Nat) s' ∧ RK s' (T.1, 0) w cp lv st val bf ch ck cn o N K l := by
  obtain ⟨d, rfl⟩ : ∃ e, d = e + 1 := ⟨d - 1, by omega⟩
  obtain ⟨⟨ho, b2, b3, b4, b5, b6⟩, h2, h3, h4, h5, h6⟩ := h
  have f : ∀ k j, k ≠ 56 → mu s 56 1 0 k j = s k j := fun k j hk => mu_c hk
  refine ⟨mu s 56 1 0, ?_, ⟨⟨ho, Nat.zero_le _, mu_s, fun j hj => absurd hj (Nat.not_lt_zero _), by rw [mu_i (by decide), b5], by rw [mu_i (by decide), b6]⟩, by rw [mu_i (by decide), h2], by rw [mu_i (by decide), h3], RUK_off h4 (fun k j a b => f _ _ (by omega)), fun i x hx => by rw [f _ _ (by omega)]; exact h5 i x hx, by rw [f _ _ (by omega), h6]⟩⟩
  simp (disch := first | exact obC_56 | omega | (simp only [List.length_cons, List.length_nil]; omega)) only [en65, x65_0, x65_1, x65_4, x65_5, x65_6, x65_7, x65_10, x65_11, if_true, if_false, eq_self, Int.reduceEq, Int.reduceLT, Int.reduceLE, Int.reduceAdd, Int.reduceSub, Int.reduceMul, Int.reduceToNat, Nat.reduceAdd, Nat.reduceMul, Nat.reduceEqDiff, Int.toNat_natCast, wrap_id, b3]
theorem k_valueK {d : Nat} {k : Int} {T : Tx} {w : Int} {cp : Bool} {lv : Live} {st val bf ch : Nat → Int} {ck cn : Int} {o N K : Nat} {l : List Nat} {s : Mem} (hd : 2 ≤ d) (h : RK s T w cp lv st val bf ch ck cn o N K l) : ((0 ≤ k ∧ k < lv.1.length) → Zc d 71 [aR 56, aI k] s = rI (val k.toNat) s) ∧ (¬ (0 ≤ k ∧ k < lv.1.length) → Zc d 71 [aR 56, aI k] s = rT 6 s) := by
  obtain ⟨d, rfl⟩ : ∃ e, d = e + 1 := ⟨d - 1, by omega⟩
  obtain ⟨⟨ho, b2, b3, b4, b5, b6⟩, h2, h3, h4, h5, h6⟩ := h
  have q5 : 0 ≤ s 56 4 := by rw [b5]; omega
  obtain ⟨w1, w0⟩ := k_has (d := d) (k := k) (by omega) ho h4.1.1.1
  have hL := h4.1.1.2.1
  refine ⟨fun hk => ?_, fun hk => ?_⟩
  · obtain ⟨n, rfl⟩ : ∃ n : Nat, k = n := ⟨k.toNat, by omega⟩
    have hv := h4.2.2.2.2.2.1 n (by omega)
    rw [Int.toNat_natCast, ← hv]
    simp (disch := first | exact obC_56 | exact (obCO_58 ho) | omega | (simp only [(aN1O_80 ho)]; omega) | (simp only [List.length_cons, List.length_nil]; omega)) only [en71, x71_0, x71_1, x71_4, x71_5, x71_8, x71_11, x71_21, x71_22, x71_25, x71_28, x71_29, x71_30, (fcnO_58_11 ho), if_true, if_false, eq_self, Int.reduceEq, Int.reduceLT, Int.reduceLE, Int.reduceAdd, Int.reduceSub, Int.reduceMul, Int.reduceToNat, Nat.reduceAdd, Nat.reduceMul, Nat.reduceEqDiff, Int.toNat_natCast, wrap_id, b5, w1 hk, zcI_r, if_neg (show ¬ (1 : Int) = 0 by decide)]
  · simp (disch := first | exact obC_56 | exact (obCO_58 ho) | omega | (simp only [(aN1O_80 ho)]; omega) | (simp only [List.length_cons, List.length_nil]; omega)) only [en71, x71_0, x71_1, x71_4, x71_5, x71_8, x71_11, x71_21, x71_22, x71_25, x71_28, x71_29, x71_30, (fcnO_58_11 ho), if_true, if_false, eq_self, Int.reduceEq, Int.reduceLT, Int.reduceLE, Int.reduceAdd, Int.reduceSub, Int.reduceMul, Int.reduceToNat, Nat.reduceAdd, Nat.reduceMul, Nat.reduceEqDiff, Int.toNat_natCast, wrap_id, b5, w0 hk, zcI_r]
theorem k_dependsK {d : Nat} {k : Int} {T : Tx} {w : Int} {cp : Bool} {lv : Live} {st val bf ch : Nat → Int} {ck cn : Int} {o N K : Nat} {l : List Nat} {s : Mem} (hd : 2 ≤ d) (h : RK s T w cp lv st val bf ch ck cn o N K l) : ((0 ≤ k ∧ k < lv.1.length) → ∃ v, Zc d 69 [aR 56, aI k] s = rI v s ∧ BT v (dpd lv.1 lv.2.1 k.toNat)) ∧ (¬ (0 ≤ k ∧ k < lv.1.length) → Zc d 69 [aR 56, aI k] s = rT 6 s) := by
  obtain ⟨d, rfl⟩ : ∃ e, d = e + 1 := ⟨d - 1, by omega⟩
  obtain ⟨⟨ho, b2, b3, b4, b5, b6⟩, h2, h3, h4, h5, h6⟩ := h
  have q5 : 0 ≤ s 56 4 := by rw [b5]; omega
  obtain ⟨w1, w0⟩ := k_has (d := d) (k := k) (by omega) ho h4.1.1.1
  have hL := h4.1.1.2.1
  refine ⟨fun hk => ?_, fun hk => ?_⟩
  · obtain ⟨n, rfl⟩ : ∃ n : Nat, k = n := ⟨k.toNat, by omega⟩
    rw [Int.toNat_natCast]
    have hx := List.getElem?_eq_getElem (show n < lv.1.length by omega)
    obtain ⟨n1, n2⟩ := h4.1.2.2.2.2.2.2.2 n _ hx
    have hi := h4.2.1.1 n _ hx
    refine ⟨s (78 + o) n, ?_, ?_⟩
    · simp (disch := first | exact obC_56 | exact (obCO_58 ho) | omega | (simp only [(aN1O_78 ho)]; omega) | (simp only [List.length_cons, List.length_nil]; omega)) only [en69, x69_0, x69_1, x69_4, x69_5, x69_8, x69_11, x69_21, x69_22, x69_25, x69_28, x69_29, x69_30, (fcnO_58_8 ho), if_true, if_false, eq_self, Int.reduceEq, Int.reduceLT, Int.reduceLE, Int.reduceAdd, Int.reduceSub, Int.reduceMul, Int.reduceToNat, Nat.reduceAdd, Nat.reduceMul, Nat.reduceEqDiff, Int.toNat_natCast, wrap_id, b5, w1 hk, zcI_r, if_neg (show ¬ (1 : Int) = 0 by decide)]
    · by_cases hs : isSk lv.1[n].1 lv.1[n].2.2.1 ∨ lv.1[n].1 = 4
      · exact BT_iff (BU_BT (hi hs) (n1 hs)) (fun g _ => ⟨fun z => ⟨_, hx, hs, z⟩, fun ⟨_, _, _, z⟩ => z⟩)
      · rw [n2 hs]
        exact BT_iff BT_0 (fun g _ => ⟨fun z => z.elim, fun ⟨y, hy, hy2, _⟩ => by
          rw [hx] at hy
          injection hy with hy
          subst hy
          exact hs hy2⟩)
  · simp (disch := first | exact obC_56 | exact (obCO_58 ho) | omega | (simp only [(aN1O_78 ho)]; omega) | (simp only [List.length_cons, List.length_nil]; omega)) only [en69, x69_0, x69_1, x69_4, x69_5, x69_8, x69_11, x69_21, x69_22, x69_25, x69_28, x69_29, x69_30, (fcnO_58_8 ho), if_true, if_false, eq_self, Int.reduceEq, Int.reduceLT, Int.reduceLE, Int.reduceAdd, Int.reduceSub, Int.reduceMul, Int.reduceToNat, Nat.reduceAdd, Nat.reduceMul, Nat.reduceEqDiff, Int.toNat_natCast, wrap_id, b5, w0 hk, zcI_r]
