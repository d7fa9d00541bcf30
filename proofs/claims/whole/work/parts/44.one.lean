/-- the one part of ! -/
theorem te_one {d dp D n j : Nat} (hd : 7 ≤ d) (hdp : dp < 6) (ih : IHE d (dp + 1) D) (s : Mem) (M0 : MID s n dp 33 0 (n + 1) j) (hB : s 16 n = -1) (rt : Int) (l4 l5 l6 : AV) :
    OUT d dp n (sk (tx s) j) rt s (Ze d 22 9 [aR 0, aI ((dp : Int) + 1), aI (-1), aI rt, l4, l5, l6] [] s)
      (bd (pEx (tx s) D (sk (tx s) j)) fun a p2 => bd (pTk (tx s) 41 p2) fun _ p3 => .ok (eNot a, p3)) := by
  have h1 := te_child ih s 33 0 M0 rt l4 l5 l6
  cases hq : pEx (tx s) D (sk (tx s) j) with
  | error f => rw [hq] at h1; exact h1
  | ok t =>
    obtain ⟨a, p2⟩ := t
    rw [hq] at h1
    obtain ⟨s1, j1, m4, m5, m6, z1, M1, hp2, x1, r1, g1, f1, hj1⟩ := h1
    rw [bd_ok, z1]
    have h4 := te_last' hd hdp s1 33 0 ((n + 1 : Nat) : Int) M1 (p := p2) (by rw [x1]; exact hp2) (by omega) rt m4 m5 m6 (by omega) (by decide) (Or.inl rfl)
    rw [x1] at h4
    by_cases h41 : cA (tx s) p2 = 41
    · obtain ⟨z4, hp4l, f4⟩ := h4.1 h41
      rw [pTk_ok h41, bd_ok, z4]
      have hp21 := sk_ge (tx s) j1
      have hm3 := M1.2.2.2.2.2.2.2.2.1
      have ag4 : AG s1 (s_end s1 n dp 0 ((n + 1 : Nat) : Int) p2 (n + 1 + esz a)) (n + 1) (n + 1 + esz a) := end_AG
      refine ⟨s_end s1 n dp 0 ((n + 1 : Nat) : Int) p2 (n + 1 + esz a), p2 + 1, _, _, _, rfl, ⟨?_, ?_, ?_, ?_, ?_⟩, ?_, ?_, rfl, by omega, by omega, ?_, f1.tr f4⟩
      · unfold s_end
        rw [mu_c (by decide), mu_c (by decide), s_put_off (by decide) (by decide), M1.2.2.1]
      · unfold s_end
        rw [mu_c (by decide), mu_c (by decide)]
        exact (s_put_0 (s := s1)).1
      · unfold s_end
        rw [mu_c (by decide), mu_c (by decide), (s_put_0 (s := s1)).2.1, g1.1 _ _ (by decide) (by omega) (by omega), hB]
      · unfold s_end
        rw [mu_s]
      · exact RE_put r1 ag4
      · unfold s_end
        rw [mu_c (by decide), mu_i (by decide), s_put_off (by decide) (by decide), M1.2.2.2.2.2.1]
        simp only [eNot, esz]
        omega
      · unfold s_end
        rw [mu_c (by decide), mu_s]
        omega
      · simp only [eNot, esz]
        omega
    · obtain ⟨s', e1, e2, e3, e4⟩ := h4.2 h41
      rw [pTk_no h41, bd_er]
      exact ⟨s', e1, e2, e3, (f1.mono (fun _ _ => TE_X)).tr e4⟩
