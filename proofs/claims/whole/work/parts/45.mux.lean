/-- the three parts of M -/
theorem te_mux {d dp D n j : Nat} (hd : 7 ≤ d) (hdp : dp < 6) (ih : IHE d (dp + 1) D) (s : Mem) (M0 : MID s n dp 77 0 (n + 1) j) (rt : Int) (l4 l5 l6 : AV) :
    OUT d dp n (sk (tx s) j) rt s (Ze d 22 9 [aR 0, aI ((dp : Int) + 1), aI (-1), aI rt, l4, l5, l6] [] s)
      (bd (pEx (tx s) D (sk (tx s) j)) fun c p2 => bd (pTk (tx s) 44 p2) fun _ p3 => bd (pEx (tx s) D p3) fun a p4 => bd (pTk (tx s) 44 p4) fun _ p5 => bd (pEx (tx s) D p5) fun b p6 => bd (pTk (tx s) 41 p6) fun _ p7 => .ok (eMux c a b, p7)) := by
  have h1 := te_child ih s 77 0 M0 rt l4 l5 l6
  cases hq : pEx (tx s) D (sk (tx s) j) with
  | error f => rw [hq] at h1; exact h1
  | ok t =>
    obtain ⟨c, p2⟩ := t
    rw [hq] at h1
    obtain ⟨s1, j1, m4, m5, m6, z1, M1, hp2, x1, r1, g1, f1, hj1⟩ := h1
    rw [bd_ok, z1]
    have h2 := te_more' hd hdp s1 77 0 ((n + 1 : Nat) : Int) M1 (p := p2) (by rw [x1]; exact hp2) (by omega) rt m4 m5 m6 (by omega) (by decide) (by decide) (by decide)
    rw [x1] at h2
    by_cases h44 : cA (tx s) p2 = 44
    · obtain ⟨z2, M2, f2⟩ := h2.1 h44
      replace M2 : MID (mu (s_put s1 n dp 0 ((n + 1 : Nat) : Int)) 0 2 ((p2 : Int) + 1)) n dp 77 1 (n + 1 + esz c) (p2 + 1) := M2
      rw [pTk_ok h44, bd_ok, z2]
      have hg2 : AG s1 (mu (s_put s1 n dp 0 ((n + 1 : Nat) : Int)) 0 2 ((p2 : Int) + 1)) (n + 1) (n + 1 + esz c) := more_AG
      have pa2 : mu (s_put s1 n dp 0 ((n + 1 : Nat) : Int)) 0 2 ((p2 : Int) + 1) 15 n = ((n + 1 : Nat) : Int) := by rw [mu_c (by decide), s_put_0.1]
      generalize mu (s_put s1 n dp 0 ((n + 1 : Nat) : Int)) 0 2 ((p2 : Int) + 1) = s2 at *
      have r2 := RE_put r1 hg2
      have f12 := f1.tr f2
      have x2 : tx s2 = tx s := (fr_te f12 M0.1).1
      have h3 := te_child ih s2 77 1 M2 rt (aI n) (aI 77) (aI 1)
      rw [x2] at h3
      have hp24 := sk_ge (tx s) (p2 + 1)
      have hp21 := sk_ge (tx s) j1
      cases hq3 : pEx (tx s) D (sk (tx s) (p2 + 1)) with
      | error f =>
        rw [hq3] at h3
        obtain ⟨s', e1, e2, e3, e4⟩ := h3
        exact ⟨s', e1, e2, e3, (f12.mono (fun _ _ => TE_X)).tr e4⟩
      | ok t =>
        obtain ⟨a, p4⟩ := t
        rw [hq3] at h3
        obtain ⟨s3, j3, q4, q5, q6, z3, M3, hp4, x3, r3, g3, f3, hj3⟩ := h3
        rw [bd_ok, z3]
        have f13 := f12.tr f3
        have h4 := te_more' hd hdp s3 77 1 ((n + 1 + esz c : Nat) : Int) M3 (p := p4) (by rw [x3]; exact hp4) (by omega) rt q4 q5 q6 (by omega) (by decide) (by decide) (by decide)
        rw [x3] at h4
        by_cases h45 : cA (tx s) p4 = 44
        · obtain ⟨z4, M4, f4⟩ := h4.1 h45
          replace M4 : MID (mu (s_put s3 n dp 1 ((n + 1 + esz c : Nat) : Int)) 0 2 ((p4 : Int) + 1)) n dp 77 2 (n + 1 + esz c + esz a) (p4 + 1) := M4
          rw [pTk_ok h45, bd_ok, z4]
          have hg4 : AG s3 (mu (s_put s3 n dp 1 ((n + 1 + esz c : Nat) : Int)) 0 2 ((p4 : Int) + 1)) (n + 1) (n + 1 + esz c + esz a) := more_AG
          have pb4 : mu (s_put s3 n dp 1 ((n + 1 + esz c : Nat) : Int)) 0 2 ((p4 : Int) + 1) 16 n = ((n + 1 + esz c : Nat) : Int) := by rw [mu_c (by decide)]; exact (s_put_1 (s := s3)).1
          have pa4 : mu (s_put s3 n dp 1 ((n + 1 + esz c : Nat) : Int)) 0 2 ((p4 : Int) + 1) 15 n = ((n + 1 : Nat) : Int) := by rw [mu_c (by decide), (s_put_1 (s := s3)).2.1, g3.1 _ _ (by decide) (by omega) (by omega), pa2]
          generalize mu (s_put s3 n dp 1 ((n + 1 + esz c : Nat) : Int)) 0 2 ((p4 : Int) + 1) = s4 at *
          have rc4 := RE_put (RE_put r2 (g3.sub (by omega) (by omega))) (hg4.sub (by omega) (by omega))
          have ra4 := RE_put r3 (hg4.sub (by omega) (by omega))
          have f14 := f13.tr f4
          have x4 : tx s4 = tx s := (fr_te f14 M0.1).1
          have h5 := te_child ih s4 77 2 M4 rt (aI n) (aI 77) (aI 1)
          rw [x4] at h5
          have hp44 := sk_ge (tx s) (p4 + 1)
          have hp43 := sk_ge (tx s) j3
          cases hq5 : pEx (tx s) D (sk (tx s) (p4 + 1)) with
          | error f =>
            rw [hq5] at h5
            obtain ⟨s', e1, e2, e3, e4⟩ := h5
            exact ⟨s', e1, e2, e3, (f14.mono (fun _ _ => TE_X)).tr e4⟩
          | ok t =>
            obtain ⟨b, p6⟩ := t
            rw [hq5] at h5
            obtain ⟨s5, j5, w4, w5, w6, z5, M5, hp6, x5, r5, g5, f5, hj5⟩ := h5
            rw [bd_ok, z5]
            have f15 := f14.tr f5
            have h6 := te_last' hd hdp s5 77 2 ((n + 1 + esz c + esz a : Nat) : Int) M5 (p := p6) (by rw [x5]; exact hp6) (by omega) rt w4 w5 w6 (by omega) (by decide) (Or.inr (by decide))
            rw [x5] at h6
            by_cases h41 : cA (tx s) p6 = 41
            · obtain ⟨z6, hp6l, f6⟩ := h6.1 h41
              rw [pTk_ok h41, bd_ok, z6]
              have hp65 := sk_ge (tx s) j5
              have hm5 := M5.2.2.2.2.2.2.2.2.1
              have ag6 : AG s5 (s_end s5 n dp 2 ((n + 1 + esz c + esz a : Nat) : Int) p6 (n + 1 + esz c + esz a + esz b)) (n + 1) (n + 1 + esz c + esz a + esz b) := end_AG
              refine ⟨s_end s5 n dp 2 ((n + 1 + esz c + esz a : Nat) : Int) p6 (n + 1 + esz c + esz a + esz b), p6 + 1, _, _, _, rfl, ⟨?_, ?_, ?_, ?_, ?_, ?_, ?_, ?_⟩, ?_, ?_, rfl, by omega, by omega, ?_, f15.tr f6⟩
              · unfold s_end
                rw [mu_c (by decide), mu_c (by decide), s_put_off (by decide) (by decide), M5.2.2.1]
              · unfold s_end
                rw [mu_c (by decide), mu_c (by decide), (s_put_2 (s := s5)).2.1, g5.1 _ _ (by decide) (by omega) (by omega), pa4]
              · unfold s_end
                rw [mu_c (by decide), mu_c (by decide), (s_put_2 (s := s5)).2.2, g5.1 _ _ (by decide) (by omega) (by omega), pb4]
              · unfold s_end
                rw [mu_c (by decide), mu_c (by decide)]
                exact (s_put_2 (s := s5)).1
              · unfold s_end
                rw [mu_s]
              · exact RE_put (RE_put rc4 (g5.sub (by omega) (by omega))) (ag6.sub (by omega) (by omega))
              · exact RE_put (RE_put ra4 (g5.sub (by omega) (by omega))) (ag6.sub (by omega) (by omega))
              · exact RE_put r5 (ag6.sub (by omega) (by omega))
              · unfold s_end
                rw [mu_c (by decide), mu_i (by decide), s_put_off (by decide) (by decide), M5.2.2.2.2.2.1]
                simp only [eMux, esz]
                omega
              · unfold s_end
                rw [mu_c (by decide), mu_s]
                omega
              · simp only [eMux, esz]
                omega
            · obtain ⟨s', e1, e2, e3, e4⟩ := h6.2 h41
              rw [pTk_no h41, bd_er]
              exact ⟨s', e1, e2, e3, (f15.mono (fun _ _ => TE_X)).tr e4⟩
        · obtain ⟨s', e1, e2, e3, e4⟩ := h4.2 h45
          rw [pTk_no h45, bd_er]
          exact ⟨s', e1, e2, e3, (f13.mono (fun _ _ => TE_X)).tr e4⟩
    · obtain ⟨s', e1, e2, e3, e4⟩ := h2.2 h44
      rw [pTk_no h44, bd_er]
      exact ⟨s', e1, e2, e3, (f1.mono (fun _ _ => TE_X)).tr e4⟩
