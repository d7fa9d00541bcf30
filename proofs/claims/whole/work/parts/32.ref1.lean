/-- the reference's text -/
def tx (s : Mem) : Tx := (s 1, (s 0 1).toNat)
def okT (s : Mem) : Prop := 0 ≤ s 0 1 ∧ s 0 1 ≤ 200 ∧ ∀ j, j < (s 0 1).toNat → 32 ≤ s 1 j ∧ s 1 j ≤ 126
theorem tx_mu {s : Mem} {j : Nat} {v : Int} (h : j ≠ 1) : tx (mu s 0 j v) = tx s := by
  unfold tx
  rw [mu_i (fun q => h q.symm)]
  refine congrArg (fun f => (f, _)) ?_
  funext i
  exact mu_c (by decide)
theorem okT_mu {s : Mem} {j : Nat} {v : Int} (h : j ≠ 1) (ho : okT s) : okT (mu s 0 j v) := by
  obtain ⟨h1, h2, h3⟩ := ho
  unfold okT
  rw [mu_i (fun q => h q.symm)]
  exact ⟨h1, h2, fun i hi => by rw [mu_c (by decide)]; exact h3 i hi⟩
/-- a fault at p, if none was before -/
def wr (s : Mem) (p : Int) : Mem := if s 0 5 = 0 then mu (mu s 0 3 p) 0 5 1 else mu s 0 5 1
theorem tx_le {s : Mem} (h : okT s) : (tx s).2 ≤ 200 := by
  have := h.2.1
  unfold tx
  dsimp only
  omega
theorem sk_200 {s : Mem} (h : okT s) {j : Nat} (hj : j ≤ (tx s).2) : sk (tx s) j ≤ 200 := Nat.le_trans (sk_le _ hj) (tx_le h)
theorem cA_rng {s : Mem} (h : okT s) (j : Nat) : -1 ≤ cA (tx s) j ∧ cA (tx s) j ≤ 126 := by
  unfold cA
  split
  next q => have := h.2.2 j q; unfold tx; dsimp only; omega
  next => omega
theorem t_in {d : Nat} (hd : 1 ≤ d) (s : Mem) (v lo hi : Int) : Zc d 1 [aI v, aI lo, aI hi] s = rI (if lo ≤ v ∧ v ≤ hi then 1 else 0) s := by
  obtain ⟨d, rfl⟩ : ∃ e, d = e + 1 := ⟨d - 1, by omega⟩
  simp (disch := first | exact obC_0 | omega | (simp only [List.length_cons, List.length_nil]; omega)) only [en1, x1_0, x1_1, x1_2, x1_5, x1_6, x1_7, x1_10, x1_11, x1_14, x1_15]
  by_cases h1 : v < lo
  · rw [if_pos h1, if_neg (by omega)]
  · rw [if_neg h1]
    by_cases h2 : hi < v
    · rw [if_pos h2, if_neg (by omega)]
    · rw [if_neg h2, if_pos (by omega)]
theorem t_isDigit {d : Nat} (hd : 2 ≤ d) (s : Mem) (v : Int) : Zc d 9 [aI v] s = rI (if 48 ≤ v ∧ v ≤ 57 then 1 else 0) s := by
  obtain ⟨d, rfl⟩ : ∃ e, d = e + 1 := ⟨d - 1, by omega⟩
  simp (disch := first | exact obC_0 | omega | (simp only [List.length_cons, List.length_nil]; omega)) only [en9, x9_0, x9_1, x9_3, x9_5, x9_8, t_in, zcI_r]
theorem t_isName {d : Nat} (hd : 2 ≤ d) (s : Mem) (v : Int) : Zc d 10 [aI v] s = rI (if 97 ≤ v ∧ v ≤ 122 then 1 else 0) s := by
  obtain ⟨d, rfl⟩ : ∃ e, d = e + 1 := ⟨d - 1, by omega⟩
  simp (disch := first | exact obC_0 | omega | (simp only [List.length_cons, List.length_nil]; omega)) only [en10, x10_0, x10_1, x10_3, x10_5, x10_8, t_in, zcI_r]
theorem t_wrong {d : Nat} (hd : 1 ≤ d) (s : Mem) (p : Int) : Zc d 5 [aR 0, aI p] s = rV (wr s p) := by
  obtain ⟨d, rfl⟩ : ∃ e, d = e + 1 := ⟨d - 1, by omega⟩
  simp (disch := first | exact obC_0 | omega | (simp only [List.length_cons, List.length_nil]; omega)) only [en5, x5_0, x5_1, x5_4, x5_7, x5_8, x5_9, x5_12, x5_13, x5_14, x5_17]
  unfold wr
  split
  · rfl
  · rfl
theorem t_charAt {d : Nat} (hd : 1 ≤ d) (s : Mem) (ho : okT s) (k : Nat) : Zc d 6 [aR 0, aI k] s = rI (cA (tx s) k) s := by
  obtain ⟨d, rfl⟩ : ∃ e, d = e + 1 := ⟨d - 1, by omega⟩
  obtain ⟨h1, h2, h3⟩ := ho
  simp (disch := first | exact obC_0 | omega | (simp only [aN1_1]; omega) | (simp only [List.length_cons, List.length_nil]; omega)) only [en6, x6_0, x6_1, x6_2, x6_5, x6_8, x6_9, x6_12, x6_13, x6_14, x6_17, x6_18, fcn_0_0, Int.toNat_natCast]
  unfold cA tx
  dsimp only
  by_cases h : (k : Int) < s 0 1
  · rw [if_pos h, if_pos (by omega)]
  · rw [if_neg h, if_neg (by omega)]
