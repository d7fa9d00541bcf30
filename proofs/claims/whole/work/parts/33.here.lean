theorem t_here {d : Nat} (hd : 2 ≤ d) (s : Mem) (ho : okT s) {j : Nat} (hj : s 0 2 = j) (hjn : j ≤ (tx s).2) : Zc d 7 [aR 0] s = rI (cA (tx s) (sk (tx s) j)) (mu s 0 2 (sk (tx s) j)) := by
  obtain ⟨d, rfl⟩ : ∃ e, d = e + 1 := ⟨d - 1, by omega⟩
  simp only [en7, x7_1, x7_4, x7_5, x7_8, x7_11, x7_12, x7_15, x7_16, x7_19, x7_20, x7_22, x7_25, x7_26, x7_26i, x7_27, x7_30, x7_31, x7_32, x7_35, x7_38, x7_39, x7_40, x7_43, x7_46, fcn_0_0]
  suffices h : ∀ (k j : Nat) (s : Mem), (tx s).2 - j = k → okT s → s 0 2 = j → j ≤ 300 → Ze d 7 0 [aR 0] [] s = rI (cA (tx s) (sk (tx s) j)) (mu s 0 2 (sk (tx s) j)) from h _ j s rfl ho hj (by have := tx_le ho; omega)
  intro k
  induction k with
  | zero =>
    intro j s hk ho hj hjn
    rw [x7_0]
    obtain ⟨h1, h2, h3⟩ := id ho
    have hge : (tx s).2 ≤ j := by omega
    have hl : ¬ (j : Int) < s 0 1 := by unfold tx at hge; dsimp only at hge; omega
    simp (disch := first | exact obC_0 | omega | (simp only [aN1_1]; omega) | (simp only [List.length_cons, List.length_nil]; omega)) only [en7, x7_1, x7_4, x7_5, x7_8, x7_11, x7_12, x7_15, x7_16, x7_19, x7_20, x7_22, x7_25, x7_26, x7_26i, x7_27, x7_30, x7_31, x7_32, x7_35, x7_38, x7_39, x7_40, x7_43, x7_46, fcn_0_0, hl, if_false, hj, t_charAt, zcI_r]
    rw [sk_id (by rw [cA_end hge]; decide), mu_eq hj]
  | succ k ih =>
    intro j s hk ho hj hjn
    rw [x7_0]
    obtain ⟨h1, h2, h3⟩ := id ho
    have hlt : j < (tx s).2 := by omega
    have hl : (j : Int) < s 0 1 := by unfold tx at hlt; dsimp only at hlt; omega
    simp (disch := first | exact obC_0 | omega | (simp only [aN1_1]; omega) | (simp only [List.length_cons, List.length_nil]; omega)) only [en7, x7_1, x7_4, x7_5, x7_8, x7_11, x7_12, x7_15, x7_16, x7_19, x7_20, x7_22, x7_25, x7_26, x7_26i, x7_27, x7_30, x7_31, x7_32, x7_35, x7_38, x7_39, x7_40, x7_43, x7_46, fcn_0_0, hl, if_true, hj, Int.toNat_natCast, t_charAt, zcI_r, wrap_id]
    have hc : cA (tx s) j = s 1 j := cA_lt hlt
    rw [← hc]
    by_cases h32 : cA (tx s) j = 32
    · rw [if_pos h32, ih (j + 1) _ (by rw [tx_mu (by decide)]; omega) (okT_mu (by decide) ho) (mu_s.trans (by omega)) (by omega), tx_mu (by decide), mu_mu, sk_next h32]
    · rw [if_neg h32, sk_id h32, mu_eq hj]
