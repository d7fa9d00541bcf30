/-- take the token of one character c -/
theorem t_expect {d : Nat} (hd : 3 ≤ d) (s : Mem) (ho : okT s) {j : Nat} (hj : s 0 2 = j) (hjn : j ≤ (tx s).2) {c : Int} (hc : 0 ≤ c ∧ c ≠ 60) : Zc d 8 [aR 0, aI c] s =
    rV (if cA (tx s) (sk (tx s) j) = c then mu s 0 2 ((sk (tx s) j : Int) + 1) else wr (mu s 0 2 (sk (tx s) j)) (sk (tx s) j)) := by
  obtain ⟨d, rfl⟩ : ∃ e, d = e + 1 := ⟨d - 1, by omega⟩
  have hsk := sk_200 ho hjn
  have h60 : (c = 60) = False := eq_false hc.2
  simp (disch := first | exact obC_0 | omega | (simp only [List.length_cons, List.length_nil]; omega)) only [en8, x8_0, x8_1, x8_4, x8_5, x8_8, x8_9, x8_11, x8_14, x8_15, x8_16, x8_19, x8_20, x8_21, x8_24, x8_26, x8_29, x8_30, x8_30i, x8_31, x8_34, x8_35, x8_36, x8_39, x8_42, x8_43, x8_44, x8_47, x8_50, t_here (show 2 ≤ d by omega) s ho hj hjn, zcI_r, zcV_r, h60, if_false, mu_s, t_wrong, wrap_id, mu_mu]
  split <;> rfl
theorem t_takeName {d : Nat} (hd : 3 ≤ d) (s : Mem) (ho : okT s) {j : Nat} (hj : s 0 2 = j) (hjn : j ≤ (tx s).2) : Zc d 11 [aR 0] s =
    rI (cA (tx s) (sk (tx s) j) - 97) (if isN (cA (tx s) (sk (tx s) j)) then mu s 0 2 ((sk (tx s) j : Int) + 1) else wr (mu s 0 2 (sk (tx s) j)) (sk (tx s) j)) := by
  obtain ⟨d, rfl⟩ : ∃ e, d = e + 1 := ⟨d - 1, by omega⟩
  have hsk := sk_200 ho hjn
  have hcA := cA_rng ho (sk (tx s) j)
  simp (disch := first | exact obC_0 | omega | (simp only [List.length_cons, List.length_nil]; omega)) only [en11, x11_0, x11_1, x11_4, x11_5, x11_6, x11_9, x11_12, x11_13, x11_13i, x11_14, x11_17, x11_18, x11_19, x11_22, x11_25, x11_26, x11_27, x11_30, x11_33, x11_34, x11_36, x11_37, t_here (show 2 ≤ d by omega) s ho hj hjn, zcI_r, zcV_r, mu_s, t_wrong, t_isName, wrap_id, mu_mu]
  split <;> rfl
