/-! THE CLASS: one token -/
theorem TKS_at {s : Mem} {T : Tx} {u k : Nat} (h : TKS s T u) (hk : k ≤ u) : s 112 k = tP T k := by
  obtain ⟨h1, h2, h3, h4, h5⟩ := h
  by_cases e : k = u
  · rw [e, h5, h3]
  · exact (h2 k (by omega)).2.1
theorem TKS_ch {s : Mem} {T : Tx} {u k : Nat} {c : Int} (h : TKS s T u) (hk : k ≤ u) (hc : 32 < c ∧ ¬ isD c ∧ c ≠ 60) : s 111 k = c ↔ cA T (tP T k) = c := by
  obtain ⟨h1, h2, h3, h4, h5⟩ := h
  by_cases e : k = u
  · rw [e, h4, h3, cA_end (Nat.le_refl _)]
    omega
  · obtain ⟨p1, p2, p3, p4⟩ := h2 k (by omega)
    by_cases hd : isD (cA T (tP T k))
    · rw [(p3 hd).2]
      have : (if tE T (tP T k) - tP T k ≤ 5 ∧ nV T (tP T k) (tE T (tP T k) - tP T k) ≤ 65535 then (2 : Int) else 1) ≤ 2 := by split <;> omega
      constructor
      · intro z; omega
      · intro z
        rw [z] at hd
        exact absurd hd hc.2.1
    · rw [p4 hd]
      unfold tE
      rw [if_neg hd]
      split
      next ha =>
        rw [if_pos (by omega), ha.1]
        omega
      next ha => rw [if_neg (by omega)]
/-- behind a token of one sign -/
theorem tP_one {T : Tx} {k : Nat} (h : ¬ isD (cA T (tP T k)) ∧ cA T (tP T k) ≠ 60) : tP T (k + 1) = sk T (tP T k + 1) := by
  show sk T (tE T (tP T k)) = _
  unfold tE
  rw [if_neg h.1, if_neg (fun z => h.2 z.1)]
theorem TKS_lt {s : Mem} {T : Tx} {u k : Nat} (h : TKS s T u) (hk : k ≤ u) (hc : 0 ≤ cA T (tP T k)) : k < u := by
  have e2 : tP T u = T.2 := h.2.2.1
  have e3 : tP T k < T.2 := cA_in hc
  refine Nat.lt_of_le_of_ne hk (fun e => ?_)
  rw [e] at e3
  omega
theorem k_kind {d k : Nat} {s : Mem} (hd : 1 ≤ d) (hk : s 131 4 = k) (hk2 : k < 201) : Zc d 138 [aR 131] s = rI (s 111 k) s := by
  obtain ⟨d, rfl⟩ : ∃ e, d = e + 1 := ⟨d - 1, by omega⟩
  simp (disch := first | exact obC_110 | exact obC_131 | omega | (simp only [aN1_111]; omega) | (simp only [List.length_cons, List.length_nil]; omega)) only [en138, x138_0, x138_1, x138_4, x138_7, x138_8, x138_11, x138_12, fcn_110_0, fcn_131_0, if_true, if_false, eq_self, Int.reduceEq, Int.reduceLT, Int.reduceLE, Int.reduceAdd, Int.reduceSub, Int.reduceMul, Int.reduceToNat, Nat.reduceAdd, Nat.reduceMul, Nat.reduceEqDiff, Int.toNat_natCast, wrap_id, hk]
theorem k_fail {d k : Nat} {s : Mem} (hd : 1 ≤ d) (hk : s 131 4 = k) (hk2 : k < 201) : Zc d 142 [aR 131] s = rI (-1) (mu s 131 5 (s 112 k)) := by
  obtain ⟨d, rfl⟩ : ∃ e, d = e + 1 := ⟨d - 1, by omega⟩
  simp (disch := first | exact obC_110 | exact obC_131 | omega | (simp only [aN1_112]; omega) | (simp only [List.length_cons, List.length_nil]; omega)) only [en142, x142_0, x142_1, x142_2, x142_5, x142_8, x142_9, x142_12, x142_13, x142_16, x142_17, fcn_110_1, fcn_131_0, if_true, if_false, eq_self, Int.reduceEq, Int.reduceLT, Int.reduceLE, Int.reduceAdd, Int.reduceSub, Int.reduceMul, Int.reduceToNat, Nat.reduceAdd, Nat.reduceMul, Nat.reduceEqDiff, Int.toNat_natCast, wrap_id, hk]
theorem k_take {d k : Nat} {c : Int} {s : Mem} (hd : 2 ≤ d) (hk : s 131 4 = k) (hk2 : k < 201) : Zc d 141 [aR 131, aI c] s = if s 111 k = c then rI 1 (mu s 131 4 ((k : Int) + 1)) else rI 0 (mu s 131 5 (s 112 k)) := by
  obtain ⟨d, rfl⟩ : ∃ e, d = e + 1 := ⟨d - 1, by omega⟩
  have g : 1 ≤ d := by omega
  by_cases h : s 111 k = c
  · rw [if_pos h]
    simp (disch := first | exact obC_131 | omega | (simp only [List.length_cons, List.length_nil]; omega)) only [en141, x141_0, x141_1, x141_4, x141_5, x141_8, x141_9, x141_12, x141_13, x141_14, x141_15, x141_16, x141_16i, x141_17, x141_20, x141_21, x141_22, x141_25, x141_26, if_true, if_false, eq_self, Int.reduceEq, Int.reduceLT, Int.reduceLE, Int.reduceAdd, Int.reduceSub, Int.reduceMul, Int.reduceToNat, Nat.reduceAdd, Nat.reduceMul, Nat.reduceEqDiff, Int.toNat_natCast, wrap_id, k_kind g hk hk2, k_fail g hk hk2, zcI_r, if_pos h, h, hk]
  · rw [if_neg h]
    simp (disch := first | exact obC_131 | omega | (simp only [List.length_cons, List.length_nil]; omega)) only [en141, x141_0, x141_1, x141_4, x141_5, x141_8, x141_9, x141_12, x141_13, x141_14, x141_15, x141_16, x141_16i, x141_17, x141_20, x141_21, x141_22, x141_25, x141_26, if_true, if_false, eq_self, Int.reduceEq, Int.reduceLT, Int.reduceLE, Int.reduceAdd, Int.reduceSub, Int.reduceMul, Int.reduceToNat, Nat.reduceAdd, Nat.reduceMul, Nat.reduceEqDiff, Int.toNat_natCast, wrap_id, k_kind g hk hk2, k_fail g hk hk2, zcI_r, if_neg h]
theorem k_name {d k : Nat} {s : Mem} (hd : 2 ≤ d) (hk : s 131 4 = k) (hk2 : k < 201) : Zc d 139 [aR 131] s = if isN (s 111 k) then rI (s 111 k - 97) (mu s 131 4 ((k : Int) + 1)) else rI (-1) (mu s 131 5 (s 112 k)) := by
  obtain ⟨d, rfl⟩ : ∃ e, d = e + 1 := ⟨d - 1, by omega⟩
  have g : 1 ≤ d := by omega
  generalize hv : s 111 k = v
  have g0 := k_kind (d := d) g hk hk2
  rw [hv] at g0
  by_cases h1 : v < 97
  · rw [if_neg (by omega)]
    simp (disch := first | exact obC_131 | omega | (simp only [List.length_cons, List.length_nil]; omega)) only [en139, x139_0, x139_1, x139_4, x139_5, x139_6, x139_8, x139_11, x139_12, x139_14, x139_17, x139_18, x139_21, x139_22, x139_23, x139_23i, x139_24, x139_27, x139_28, x139_29, x139_32, x139_33, x139_35, x139_36, if_true, if_false, eq_self, Int.reduceEq, Int.reduceLT, Int.reduceLE, Int.reduceAdd, Int.reduceSub, Int.reduceMul, Int.reduceToNat, Nat.reduceAdd, Nat.reduceMul, Nat.reduceEqDiff, Int.toNat_natCast, wrap_id, g0, k_fail g hk hk2, zcI_r, if_pos h1, if_neg (show ¬ ¬ v < 97 by omega), if_neg (show ¬ 97 ≤ v by omega)]
  · by_cases h2 : 122 < v
    · rw [if_neg (by omega)]
      simp (disch := first | exact obC_131 | omega | (simp only [List.length_cons, List.length_nil]; omega)) only [en139, x139_0, x139_1, x139_4, x139_5, x139_6, x139_8, x139_11, x139_12, x139_14, x139_17, x139_18, x139_21, x139_22, x139_23, x139_23i, x139_24, x139_27, x139_28, x139_29, x139_32, x139_33, x139_35, x139_36, if_true, if_false, eq_self, Int.reduceEq, Int.reduceLT, Int.reduceLE, Int.reduceAdd, Int.reduceSub, Int.reduceMul, Int.reduceToNat, Nat.reduceAdd, Nat.reduceMul, Nat.reduceEqDiff, Int.toNat_natCast, wrap_id, g0, k_fail g hk hk2, zcI_r, if_neg h1, if_pos h2, if_neg (show ¬ v ≤ 122 by omega)]
    · rw [if_pos (by omega)]
      simp (disch := first | exact obC_131 | omega | (simp only [List.length_cons, List.length_nil]; omega)) only [en139, x139_0, x139_1, x139_4, x139_5, x139_6, x139_8, x139_11, x139_12, x139_14, x139_17, x139_18, x139_21, x139_22, x139_23, x139_23i, x139_24, x139_27, x139_28, x139_29, x139_32, x139_33, x139_35, x139_36, if_true, if_false, eq_self, Int.reduceEq, Int.reduceLT, Int.reduceLE, Int.reduceAdd, Int.reduceSub, Int.reduceMul, Int.reduceToNat, Nat.reduceAdd, Nat.reduceMul, Nat.reduceEqDiff, Int.toNat_natCast, wrap_id, g0, k_fail g hk hk2, zcI_r, if_neg h1, if_neg h2, if_pos (show v ≤ 122 by omega), hk]
