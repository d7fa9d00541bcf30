theorem k_number {d k : Nat} {lo hi : Int} {s : Mem} (hd : 2 ≤ d) (hk : s 131 4 = k) (hk2 : k < 201) : Zc d 140 [aR 131, aI lo, aI hi] s = if s 111 k = 2 ∧ lo ≤ s 113 k ∧ s 113 k ≤ hi then rI (s 113 k) (mu s 131 4 ((k : Int) + 1)) else rI (-1) (mu s 131 5 (s 112 k)) := by
  obtain ⟨d, rfl⟩ : ∃ e, d = e + 1 := ⟨d - 1, by omega⟩
  have g : 1 ≤ d := by omega
  generalize hv : s 113 k = v
  by_cases h0 : s 111 k = 2
  · by_cases h1 : v < lo
    · rw [if_neg (by omega)]
      simp (disch := first | exact obC_110 | exact obC_131 | omega | (simp only [aN1_113]; omega) | (simp only [List.length_cons, List.length_nil]; omega)) only [en140, x140_0, x140_1, x140_4, x140_7, x140_8, x140_11, x140_12, x140_13, x140_14, x140_17, x140_18, x140_21, x140_22, x140_23, x140_26, x140_27, x140_28, x140_31, x140_32, x140_35, x140_36, x140_37, x140_37i, x140_38, x140_41, x140_42, x140_43, x140_46, x140_47, fcn_110_2, fcn_131_0, if_true, if_false, eq_self, Int.reduceEq, Int.reduceLT, Int.reduceLE, Int.reduceAdd, Int.reduceSub, Int.reduceMul, Int.reduceToNat, Nat.reduceAdd, Nat.reduceMul, Nat.reduceEqDiff, Int.toNat_natCast, wrap_id, hk, hv, h0, k_kind g hk hk2, k_fail g hk hk2, zcI_r, if_pos h1, if_neg (show ¬ ¬ v < lo by omega), if_neg (show ¬ lo ≤ v by omega)]
    · by_cases h2 : hi < v
      · rw [if_neg (by omega)]
        simp (disch := first | exact obC_110 | exact obC_131 | omega | (simp only [aN1_113]; omega) | (simp only [List.length_cons, List.length_nil]; omega)) only [en140, x140_0, x140_1, x140_4, x140_7, x140_8, x140_11, x140_12, x140_13, x140_14, x140_17, x140_18, x140_21, x140_22, x140_23, x140_26, x140_27, x140_28, x140_31, x140_32, x140_35, x140_36, x140_37, x140_37i, x140_38, x140_41, x140_42, x140_43, x140_46, x140_47, fcn_110_2, fcn_131_0, if_true, if_false, eq_self, Int.reduceEq, Int.reduceLT, Int.reduceLE, Int.reduceAdd, Int.reduceSub, Int.reduceMul, Int.reduceToNat, Nat.reduceAdd, Nat.reduceMul, Nat.reduceEqDiff, Int.toNat_natCast, wrap_id, hk, hv, h0, k_kind g hk hk2, k_fail g hk hk2, zcI_r, if_neg h1, if_pos h2, if_neg (show ¬ v ≤ hi by omega), if_pos (show lo ≤ v by omega)]
      · rw [if_pos (by omega)]
        simp (disch := first | exact obC_110 | exact obC_131 | omega | (simp only [aN1_113]; omega) | (simp only [List.length_cons, List.length_nil]; omega)) only [en140, x140_0, x140_1, x140_4, x140_7, x140_8, x140_11, x140_12, x140_13, x140_14, x140_17, x140_18, x140_21, x140_22, x140_23, x140_26, x140_27, x140_28, x140_31, x140_32, x140_35, x140_36, x140_37, x140_37i, x140_38, x140_41, x140_42, x140_43, x140_46, x140_47, fcn_110_2, fcn_131_0, if_true, if_false, eq_self, Int.reduceEq, Int.reduceLT, Int.reduceLE, Int.reduceAdd, Int.reduceSub, Int.reduceMul, Int.reduceToNat, Nat.reduceAdd, Nat.reduceMul, Nat.reduceEqDiff, Int.toNat_natCast, wrap_id, hk, hv, h0, k_kind g hk hk2, k_fail g hk hk2, zcI_r, if_neg h1, if_neg h2, if_pos (show v ≤ hi by omega), if_pos (show lo ≤ v by omega)]
  · rw [if_neg (fun z => h0 z.1)]
    simp (disch := first | exact obC_110 | exact obC_131 | omega | (simp only [aN1_113]; omega) | (simp only [List.length_cons, List.length_nil]; omega)) only [en140, x140_0, x140_1, x140_4, x140_7, x140_8, x140_11, x140_12, x140_13, x140_14, x140_17, x140_18, x140_21, x140_22, x140_23, x140_26, x140_27, x140_28, x140_31, x140_32, x140_35, x140_36, x140_37, x140_37i, x140_38, x140_41, x140_42, x140_43, x140_46, x140_47, fcn_110_2, fcn_131_0, if_true, if_false, eq_self, Int.reduceEq, Int.reduceLT, Int.reduceLE, Int.reduceAdd, Int.reduceSub, Int.reduceMul, Int.reduceToNat, Nat.reduceAdd, Nat.reduceMul, Nat.reduceEqDiff, Int.toNat_natCast, wrap_id, hk, hv, k_kind g hk hk2, k_fail g hk hk2, zcI_r, if_neg h0]
theorem TKS_nm {s : Mem} {T : Tx} {u k : Nat} (h : TKS s T u) (hk : k ≤ u) : (isN (s 111 k) ↔ isN (cA T (tP T k))) ∧ (isN (cA T (tP T k)) → s 111 k = cA T (tP T k)) := by
  have key : ∀ c : Int, isN c → (s 111 k = c ↔ cA T (tP T k) = c) := fun c hc => TKS_ch h hk (by omega)
  refine ⟨⟨fun z => ?_, fun z => ?_⟩, fun z => (key _ z).mpr rfl⟩
  · rw [(key _ z).mp rfl]
    exact z
  · rw [(key _ z).mpr rfl]
    exact z
theorem TKS_nu {s : Mem} {T : Tx} {u k : Nat} {lo hi : Int} (hT : ∀ j, j < T.2 → 32 ≤ T.1 j) (h : TKS s T u) (hk : k ≤ u) (hh : hi ≤ 65535) : ((s 111 k = 2 ∧ lo ≤ s 113 k ∧ s 113 k ≤ hi) ↔ okNu T lo hi (tP T k)) ∧ (okNu T lo hi (tP T k) → s 113 k = nV T (tP T k) (nE T (tP T k) - tP T k) ∧ tP T (k + 1) = sk T (nE T (tP T k))) := by
  obtain ⟨h1, h2, h3, h4, h5⟩ := h
  unfold okNu
  by_cases e : k = u
  · have hc : cA T (tP T k) = -1 := by rw [e, h3]; exact cA_end (Nat.le_refl _)
    rw [hc, e, h4]
    refine ⟨⟨fun z => ?_, fun z => ?_⟩, fun z => ?_⟩ <;> omega
  · obtain ⟨p1, p2, p3, p4⟩ := h2 k (by omega)
    by_cases hd : isD (cA T (tP T k))
    · have hE : tE T (tP T k) = nE T (tP T k) := if_pos hd
      obtain ⟨a1, a2⟩ := p3 hd
      rw [hE] at a1 a2
      have hP : tP T (k + 1) = sk T (nE T (tP T k)) := by
        show sk T (tE T (tP T k)) = _
        rw [hE]
      rw [a1, a2]
      refine ⟨⟨fun z => ?_, fun z => ?_⟩, fun z => ⟨by omega, hP⟩⟩
      · have : nE T (tP T k) - tP T k ≤ 5 ∧ nV T (tP T k) (nE T (tP T k) - tP T k) ≤ 65535 := by
          refine Decidable.byContradiction fun y => ?_
          rw [if_neg y] at z
          omega
        exact ⟨hd, this.1, this.2, by omega, by omega⟩
      · rw [if_pos ⟨z.2.1, z.2.2.1⟩]
        exact ⟨rfl, by omega, by omega⟩
    · refine ⟨⟨fun z => ?_, fun z => absurd z.1 hd⟩, fun z => absurd z.1 hd⟩
      rw [p4 hd] at z
      split at z
      · omega
      · exfalso
        have := hT (tP T k) p1
        rw [← cA_lt p1] at this
        omega
