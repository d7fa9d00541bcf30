theorem nV_5 {T : Tx} {p k : Nat} (h : p + k ≤ nE T p) (hk : k ≤ 6) : 0 ≤ nV T p k ∧ nV T p k ≤ 999999 := by
  obtain ⟨h1, h2⟩ := nV_in T p k h
  have h3 : (10 : Int) ^ k ≤ 10 ^ 6 := by
    rcases (by omega : k = 0 ∨ k = 1 ∨ k = 2 ∨ k = 3 ∨ k = 4 ∨ k = 5 ∨ k = 6) with q | q | q | q | q | q | q <;> subst q <;> decide
  have h4 : (10 : Int) ^ 6 = 1000000 := by decide
  omega
theorem t_takeNumber {d : Nat} (hd : 4 ≤ d) (s : Mem) (ho : okT s) {j : Nat} (hj : s 0 2 = j) (hjn : j ≤ (tx s).2) (lo hi : Int) : Zc d 12 [aR 0, aI lo, aI hi] s =
    if isD (cA (tx s) (sk (tx s) j)) then
      (if nE (tx s) (sk (tx s) j) - sk (tx s) j ≤ 5 ∧ nV (tx s) (sk (tx s) j) (nE (tx s) (sk (tx s) j) - sk (tx s) j) ≤ 65535 ∧ lo ≤ nV (tx s) (sk (tx s) j) (nE (tx s) (sk (tx s) j) - sk (tx s) j) ∧ nV (tx s) (sk (tx s) j) (nE (tx s) (sk (tx s) j) - sk (tx s) j) ≤ hi then
        rI (nV (tx s) (sk (tx s) j) (nE (tx s) (sk (tx s) j) - sk (tx s) j)) (mu s 0 2 (nE (tx s) (sk (tx s) j)))
      else rI (nV (tx s) (sk (tx s) j) (min 6 (nE (tx s) (sk (tx s) j) - sk (tx s) j))) (wr (mu s 0 2 (nE (tx s) (sk (tx s) j))) (sk (tx s) j)))
    else rI 0 (wr (mu s 0 2 (sk (tx s) j)) (sk (tx s) j)) := by
  obtain ⟨d, rfl⟩ : ∃ e, d = e + 1 := ⟨d - 1, by omega⟩
  have hsk := sk_200 ho hjn
  have hse : ∀ v : Int, tx (mu s 0 2 v) = tx s := fun v => tx_mu (by decide)
  have hso : ∀ v : Int, okT (mu s 0 2 v) := fun v => okT_mu (by decide) ho
  generalize hp : sk (tx s) j = p at *
  simp (disch := first | exact obC_0 | omega | (simp only [aN1_1]; omega) | (simp only [List.length_cons, List.length_nil]; omega)) only [en12, x12_0, x12_1, x12_4, x12_5, x12_6, x12_9, x12_11, x12_12, x12_14, x12_15, x12_17, x12_18, x12_21, x12_24, x12_25, x12_26, x12_29, x12_32, x12_33, x12_35, x12_36, x12_39, x12_42, x12_45, x12_48, x12_50, x12_52, x12_55, x12_57, x12_59, x12_60, x12_61, x12_64, x12_65, x12_68, x12_69, x12_70, x12_72, x12_73, x12_75, x12_78, x12_79, x12_79i, x12_80, x12_83, x12_84, x12_85, x12_88, x12_91, x12_93, x12_94, x12_97, x12_99, x12_101, x12_104, x12_106, x12_107, x12_110, x12_112, x12_113, x12_116, x12_117, x12_119, x12_122, x12_124, fcn_0_0, t_here (show 2 ≤ d by omega) s ho hj hjn, hp, zcI_r, zcV_r, mu_s, t_wrong, t_isDigit, mu_mu]
  by_cases hdg : isD (cA (tx s) p)
  · rw [if_pos hdg, if_pos hdg, if_neg (by decide)]
    have hlen := tx_le ho
    have hq := nE_le (tx s) (j := p) (by rw [← hp]; exact sk_le _ hjn)
    suffices h : ∀ (k m : Nat), nE (tx s) p - (p + m) = k → p + m ≤ nE (tx s) p → Ze d 12 34 [aR 0, aI lo, aI hi, aI (cA (tx s) p), aI p, aI (nV (tx s) p (min 6 m)), aI m] [] (mu s 0 2 ((p + m : Nat) : Int)) = _ from by
      have := h _ 0 rfl (nE_ge _ _)
      exact this
    intro k
    induction k with
    | zero =>
      intro m hk hm
      have hm2 : p + m = nE (tx s) p := by omega
      have hnd : ¬ isD (cA (tx s) (p + m)) := fun q => by
        have h1 := nE_stop (tx s) p
        rw [← hm2] at h1
        exact h1 q
      have hm3 : nE (tx s) p - p = m := by omega
      rw [x12_34, hm3, ← hm2]
      have hnd2 : (if 48 ≤ cA (tx s) (p + m) ∧ cA (tx s) (p + m) ≤ 57 then (1 : Int) else 0) = 0 := if_neg hnd
      simp (disch := first | exact obC_0 | omega | (simp only [aN1_1]; omega) | (simp only [List.length_cons, List.length_nil]; omega)) only [en12, x12_0, x12_1, x12_4, x12_5, x12_6, x12_9, x12_11, x12_12, x12_14, x12_15, x12_17, x12_18, x12_21, x12_24, x12_25, x12_26, x12_29, x12_32, x12_33, x12_35, x12_36, x12_39, x12_42, x12_45, x12_48, x12_50, x12_52, x12_55, x12_57, x12_59, x12_60, x12_61, x12_64, x12_65, x12_68, x12_69, x12_70, x12_72, x12_73, x12_75, x12_78, x12_79, x12_79i, x12_80, x12_83, x12_84, x12_85, x12_88, x12_91, x12_93, x12_94, x12_97, x12_99, x12_101, x12_104, x12_106, x12_107, x12_110, x12_112, x12_113, x12_116, x12_117, x12_119, x12_122, x12_124, fcn_0_0, hse, mu_s, t_charAt (show 1 ≤ d by omega) _ (hso _), t_isDigit, zcI_r, zcV_r, hnd2, if_true, t_wrong]
      by_cases h : m ≤ 5 ∧ nV (tx s) p m ≤ 65535 ∧ lo ≤ nV (tx s) p m ∧ nV (tx s) p m ≤ hi
      · have e6 : min 6 m = m := by omega
        rw [if_pos h, e6, if_neg (by omega), if_neg (by omega), if_neg (by omega), if_neg (by omega)]
      · rw [if_neg h]
        split
        · rfl
        next h5 =>
          have e6 : min 6 m = m := by omega
          rw [e6]
          split
          · rfl
          · split
            · rfl
            · split
              · rfl
              · exact absurd (by omega) h
    | succ k ih =>
      intro m hk hm
      have hd1 : isD (cA (tx s) (p + m)) := nE_in (tx s) m p (by omega)
      rw [x12_34]
      have hnd2 : (if 48 ≤ cA (tx s) (p + m) ∧ cA (tx s) (p + m) ≤ 57 then (1 : Int) else 0) = 1 := if_pos hd1
      have hmu : ∀ (v : Int) (i : Nat), mu s 0 2 v 1 i = s 1 i := fun v i => mu_c (by decide)
      have hcs : s 1 (p + m) = cA (tx s) (p + m) := (cA_lt (T := tx s) (by omega)).symm
      have hv := nV_5 (T := tx s) (p := p) (k := min 6 m) (by omega) (by omega)
      obtain ⟨hd2, hd3⟩ := hd1
      simp (disch := first | exact obC_0 | omega | (simp only [aN1_1]; omega) | (simp only [List.length_cons, List.length_nil]; omega)) only [en12, x12_0, x12_1, x12_4, x12_5, x12_6, x12_9, x12_11, x12_12, x12_14, x12_15, x12_17, x12_18, x12_21, x12_24, x12_25, x12_26, x12_29, x12_32, x12_33, x12_35, x12_36, x12_39, x12_42, x12_45, x12_48, x12_50, x12_52, x12_55, x12_57, x12_59, x12_60, x12_61, x12_64, x12_65, x12_68, x12_69, x12_70, x12_72, x12_73, x12_75, x12_78, x12_79, x12_79i, x12_80, x12_83, x12_84, x12_85, x12_88, x12_91, x12_93, x12_94, x12_97, x12_99, x12_101, x12_104, x12_106, x12_107, x12_110, x12_112, x12_113, x12_116, x12_117, x12_119, x12_122, x12_124, fcn_0_0, hse, mu_s, t_charAt (show 1 ≤ d by omega) _ (hso _), t_isDigit, zcI_r, zcV_r, hnd2, if_false, (show ((1 : Int) = 0) = False from by decide), hmu, Int.toNat_natCast, hcs, wrap_id, mu_mu]
      have := ih (m + 1) (by omega) (by omega)
      by_cases h6 : m < 6
      · have e1 : min 6 m = m := by omega
        have e2 : min 6 (m + 1) = m + 1 := by omega
        rw [if_pos (by omega), ← this, e1, e2]
        rfl
      · have e1 : min 6 m = 6 := by omega
        have e2 : min 6 (m + 1) = 6 := by omega
        rw [if_neg (by omega), ← this, e1, e2]
        rfl
  · rw [if_neg hdg, if_neg hdg, if_pos rfl]
