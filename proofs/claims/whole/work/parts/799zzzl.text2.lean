/-! THE CLASS: text, whole -/
theorem k_textK {d : Nat} {x : Int} {T : Tx} {w : Int} {cp : Bool} {lv : Live} {st val bf ch : Nat → Int} {ck cn : Int} {o N K : Nat} {l : List Nat} {s : Mem} (hd : 2 ≤ d) (h : RK s T w cp lv st val bf ch ck cn o N K l) :
    ((btl x 8).all okc = false → Zc d 64 [aR 56, aL x] s = rT 1 s) ∧
    ((btl x 8).all okc = true → 200 < T.2 + (btl x 8).length → Zc d 64 [aR 56, aL x] s = rT 3 s) ∧
    ((btl x 8).all okc = true → T.2 + (btl x 8).length ≤ 200 → ∃ s', Zc d 64 [aR 56, aL x] s = rI ((T.2 + (btl x 8).length : Nat) : Int) s' ∧ ∀ T', TXA T T' (btl x 8) → RK s' T' w cp lv st val bf ch ck cn o N K l) := by
  obtain ⟨d, rfl⟩ : ∃ e, d = e + 1 := ⟨d - 1, by omega⟩
  obtain ⟨⟨ho, b2, b3, b4, b5, b6⟩, h2, h3, h4, h5, h6⟩ := h
  have hl := k_lettersIn (d := d) (w := x) (s := s) (by omega)
  have h8 := btl_len x 8
  have e8 : 8 * ((8 : Nat) : Int) - 8 = 56 := by decide
  refine ⟨fun ha => ?_, fun ha hlen => ?_, fun ha hlen => ?_⟩
  · rw [ha, if_neg (by decide)] at hl
    simp (disch := first | exact obC_56 | omega | (simp only [aN3_57]; omega) | (simp only [List.length_cons, List.length_nil]; omega)) only [en64, x64_0, x64_1, x64_4, x64_5, x64_6, x64_7, x64_10, x64_20, x64_21, x64_24, x64_25, x64_26, x64_29, x64_32, x64_42, x64_44, x64_48, x64_51, x64_52, x64_54, x64_55, x64_56, x64_59, x64_60, x64_62, x64_64, x64_67, x64_68, x64_71, x64_74, x64_77, x64_78, x64_81, x64_82, x64_85, x64_87, x64_88, x64_89, x64_90, x64_90i, x64_91, x64_94, x64_95, x64_96, x64_99, x64_102, x64_105, x64_106, x64_109, fcn_56_0, if_true, if_false, eq_self, Int.reduceEq, Int.reduceLT, Int.reduceLE, Int.reduceAdd, Int.reduceSub, Int.reduceMul, Int.reduceToNat, Nat.reduceAdd, Nat.reduceMul, Nat.reduceEqDiff, Int.toNat_natCast, wrap_id, hl, zcI_r]
  · rw [ha, if_pos rfl] at hl
    simp (disch := first | exact obC_56 | omega | (simp only [aN3_57]; omega) | (simp only [List.length_cons, List.length_nil]; omega)) only [en64, x64_0, x64_1, x64_4, x64_5, x64_6, x64_7, x64_10, x64_20, x64_21, x64_24, x64_25, x64_26, x64_29, x64_32, x64_42, x64_44, x64_48, x64_51, x64_52, x64_54, x64_55, x64_56, x64_59, x64_60, x64_62, x64_64, x64_67, x64_68, x64_71, x64_74, x64_77, x64_78, x64_81, x64_82, x64_85, x64_87, x64_88, x64_89, x64_90, x64_90i, x64_91, x64_94, x64_95, x64_96, x64_99, x64_102, x64_105, x64_106, x64_109, fcn_56_0, if_true, if_false, eq_self, Int.reduceEq, Int.reduceLT, Int.reduceLE, Int.reduceAdd, Int.reduceSub, Int.reduceMul, Int.reduceToNat, Nat.reduceAdd, Nat.reduceMul, Nat.reduceEqDiff, Int.toNat_natCast, wrap_id, hl, zcI_r, b3, if_neg (show ¬ (((btl x 8).length : Nat) : Int) = -1 by omega), if_pos (show (200 : Int) < (T.2 : Int) + ((btl x 8).length : Nat) by omega)]
  · rw [ha, if_pos rfl] at hl
    obtain ⟨s', q1, q2, q3, q4, q5⟩ := ltt (d := d) (w := x) aU (aI ((btl x 8).length : Nat)) 8 T.2 s aU (by decide) hlen ha b3
    refine ⟨s', ?_, fun T' hT => ?_⟩
    · rw [← q1, e8]
      simp (disch := first | exact obC_56 | omega | (simp only [aN3_57]; omega) | (simp only [List.length_cons, List.length_nil]; omega)) only [en64, x64_0, x64_1, x64_4, x64_5, x64_6, x64_7, x64_10, x64_20, x64_21, x64_24, x64_25, x64_26, x64_29, x64_32, x64_42, x64_44, x64_48, x64_51, x64_52, x64_54, x64_55, x64_56, x64_59, x64_60, x64_62, x64_64, x64_67, x64_68, x64_71, x64_74, x64_77, x64_78, x64_81, x64_82, x64_85, x64_87, x64_88, x64_89, x64_90, x64_90i, x64_91, x64_94, x64_95, x64_96, x64_99, x64_102, x64_105, x64_106, x64_109, fcn_56_0, if_true, if_false, eq_self, Int.reduceEq, Int.reduceLT, Int.reduceLE, Int.reduceAdd, Int.reduceSub, Int.reduceMul, Int.reduceToNat, Nat.reduceAdd, Nat.reduceMul, Nat.reduceEqDiff, Int.toNat_natCast, wrap_id, hl, zcI_r, b3, if_neg (show ¬ (((btl x 8).length : Nat) : Int) = -1 by omega), if_neg (show ¬ (200 : Int) < (T.2 : Int) + ((btl x 8).length : Nat) by omega)]
    · obtain ⟨t1, t2, t3⟩ := hT
      have qx : ∀ j, j ≠ 1 → s' 56 j = s 56 j := fun j hj => q5 _ _ (by unfold TXC; omega)
      have qo : ∀ k j, 58 + o ≤ k → k ≤ 83 + o → s' k j = s k j := fun k j a b => q5 _ _ (by unfold TXC; omega)
      refine ⟨⟨ho, by omega, by rw [q2, t1], fun j hj => ?_, by rw [qx _ (by decide), b5], by rw [qx _ (by decide), b6]⟩, by rw [qx _ (by decide), h2], by rw [qx _ (by decide), h3], RUK_off h4 qo, fun i y hy => by rw [qo _ _ (by omega) (by omega)]; exact h5 i y hy, by rw [qo _ _ (by omega) (by omega), h6]⟩
      by_cases hjl : j < T.2
      · rw [q4 j hjl, t2 j hjl]
        exact b4 j hjl
      · obtain ⟨i, rfl⟩ : ∃ i, j = T.2 + i := ⟨j - T.2, by omega⟩
        have hi : i < (btl x 8).length := by omega
        have hx := List.getElem?_eq_getElem hi
        rw [q3 i _ hx, t3 i _ hx]
        have hk := List.all_eq_true.mp ha _ (List.getElem_mem hi)
        have := of_decide_eq_true hk
        exact ⟨rfl, this⟩
