theorem bd_bd {α β γ : Type} (x : PR α) (f : α → Nat → PR β) (g : β → Nat → Except Nat γ) : bd (bd x f) g = bd x (fun a p => bd (f a p) g) := by
  unfold bd
  cases x with
  | error e => rfl
  | ok t => rfl
/-- the part of T, and its two numbers -/
theorem te_T {d dp D n j : Nat} (hd : 7 ≤ d) (hdp : dp < 6) (ih : IHE d (dp + 1) D) (s : Mem) (M0 : MID s n dp 84 0 (n + 1) j) (hB : s 16 n = -1) (rt : Int) (l4 l5 l6 : AV) :
    OUT d dp n (sk (tx s) j) rt s (Ze d 22 9 [aR 0, aI ((dp : Int) + 1), aI (-1), aI rt, l4, l5, l6] [] s)
      (bd (pEx (tx s) D (sk (tx s) j)) fun a p2 => bd (pBits (tx s) p2) fun hl p6 => bd (pTk (tx s) 41 p6) fun _ p7 => .ok (eBit hl.1 hl.2 a, p7)) := by
  have h1 := te_child ih s 84 0 M0 rt l4 l5 l6
  cases hq : pEx (tx s) D (sk (tx s) j) with
  | error f => rw [hq] at h1; exact h1
  | ok t =>
    obtain ⟨a, p2⟩ := t
    rw [hq] at h1
    obtain ⟨s1, j1, m4, m5, m6, z1, M1, hp2, x1, r1, g1, f1, hj1⟩ := h1
    rw [bd_ok, z1]
    obtain ⟨ho, hb, hkd, hst, hgt, hnd, hat, hj, hmj, hnm⟩ := M1
    have hlen := tx_le ho
    have hn : n < 220 := by omega
    have f2 : Fr (TE n dp) s1 (s_put s1 n dp 0 ((n + 1 : Nat) : Int)) := s_put_fr hn
    obtain ⟨x2, o2, b2, w2⟩ := fr_te f2 ho
    have a2 : s_put s1 n dp 0 ((n + 1 : Nat) : Int) 0 2 = j1 := by rw [s_put_off (by decide) (by decide), hat]
    have hbt := t_bits (d := d) (by omega) hn _ o2 (by rw [b2, hb]) a2 (by rw [x2]; exact hj) (p := p2) (by rw [x2, x1]; exact hp2)
    rw [x2, x1] at hbt
    have f12 := f1.tr f2
    have hp21 := sk_ge (tx s) j1
    cases hq2 : pBits (tx s) p2 with
    | error f =>
      rw [hq2] at hbt
      obtain ⟨s3, e1, e2, e3, e4⟩ := hbt
      rw [bd_er]
      refine ⟨mu s3 18 n (s3 0 32), ?_, by rw [mu_c (by decide), e2], by rw [mu_c (by decide), e3], ?_⟩
      · rw [te_bits hd hdp hn s1 s3 s3 hb rt ((n + 1 : Nat) : Int) (by omega) m4 m5 m6 hst hkd hgt e1 (Or.inr ⟨by omega, rfl⟩)]
        exact te_exit _ (by rw [mu_c (by decide), e2]; decide) _ _ _ _ _ _
      · exact ((f12.mono (fun _ _ => TE_X)).tr (e4.mono (fun k j h => by unfold FBX FB at h; unfold TX' SX SE; omega))).mu (by unfold TX' SX SE; omega)
    | ok t =>
      obtain ⟨⟨h, l⟩, p6⟩ := t
      rw [hq2] at hbt
      obtain ⟨s3, j3, e1, e2, e3, e4, e5, e6, e7, e8, e9, e10⟩ := hbt
      dsimp only at e2 e3 e4 e5
      rw [bd_ok]
      have f3 : Fr (TE n dp) s s3 := f12.tr (e10.mono (fun k j h => by unfold FB at h; unfold TE SE; omega))
      obtain ⟨x3, o3, b3, w3⟩ := fr_te f3 M0.1
      have b3' : s3 0 5 = 0 := by rw [b3, M0.2.1]
      have n3 : s3 0 32 = ((n + 1 + esz a : Nat) : Int) := by rw [e10 _ _ (by unfold FB; omega), s_put_off (by decide) (by decide), hnd]
      by_cases h41 : cA (tx s) p6 = 41
      · have hk := t_exp_ok (d := d) (by omega) s3 o3 e6 (by rw [x3]; omega) (c := 41) (by decide) (by rw [x3, e7]; exact h41)
        rw [x3, e7] at hk
        have hp6l : p6 < (tx s).2 := cA_in (by omega)
        have hp63 := sk_ge (tx s) j3
        have hB1 : s1 16 n = -1 := by rw [g1.1 _ _ (by decide) (by omega) (by omega), hB]
        have ag : AG s1 (mu (mu s3 0 2 ((p6 : Int) + 1)) 18 n ((n + 1 + esz a : Nat) : Int)) (n + 1) (n + 1 + esz a) := put_AG (n := n) (dp := dp) (g := 0) (v := ((n + 1 : Nat) : Int)) (fun k i hk hi => by
          rcases hi with hi | hi
          · rw [mu_i hi, mu_c (by omega), e10 _ _ (by unfold FB; omega)]
          · rw [mu_c (by omega), mu_c (by omega), e10 _ _ (by unfold FB; omega)])
        rw [pTk_ok h41, bd_ok, te_bits hd hdp hn s1 s3 _ hb rt ((n + 1 : Nat) : Int) (by omega) m4 m5 m6 hst hkd hgt e1 (Or.inl ⟨b3', hk⟩), show mu s3 0 2 ((p6 : Int) + 1) 0 32 = ((n + 1 + esz a : Nat) : Int) by rw [mu_i (by decide), n3]]
        refine ⟨_, p6 + 1, _, _, _, rfl, ⟨?_, ?_, ?_, ⟨e4, e5⟩, ?_, ?_, ?_, ?_⟩, ?_, ?_, rfl, by omega, by omega, ?_, (f3.mu (by unfold TE SE; omega)).mu (by unfold TE SE; omega)⟩
        · rw [mu_c (by decide), mu_c (by decide), e10 _ _ (by unfold FB; omega), s_put_off (by decide) (by decide), hkd]
        · rw [mu_c (by decide), mu_c (by decide), e2]
        · rw [mu_c (by decide), mu_c (by decide), e3]
        · rw [mu_c (by decide), mu_c (by decide), e10 _ _ (by unfold FB; omega)]
          exact (s_put_0 (s := s1)).1
        · rw [mu_c (by decide), mu_c (by decide), e10 _ _ (by unfold FB; omega), (s_put_0 (s := s1)).2.1, hB1]
        · rw [mu_s]
        · exact RE_put r1 ag
        · rw [mu_c (by decide), mu_i (by decide), n3]
          simp only [eBit, esz]
          omega
        · rw [mu_c (by decide), mu_s]
          omega
        · simp only [eBit, esz]
          omega
      · have hk := t_exp_no (d := d) (by omega) s3 o3 b3' e6 (by rw [x3]; omega) (c := 41) (by decide) (by rw [x3, e7]; exact h41)
        rw [x3, e7] at hk
        rw [pTk_no h41, bd_er, te_bits hd hdp hn s1 s3 _ hb rt ((n + 1 : Nat) : Int) (by omega) m4 m5 m6 hst hkd hgt e1 (Or.inl ⟨b3', hk⟩)]
        refine ⟨_, te_exit _ (by rw [mu_c (by decide), mu_s]; decide) _ _ _ _ _ _, by rw [mu_c (by decide), mu_s], by rw [mu_c (by decide), mu_i (by decide), mu_s], ?_⟩
        exact ((((f3.mono (fun _ _ => TE_X)).mu (by unfold TX' SX SE; omega)).mu (by unfold TX' SX SE; omega)).mu (by unfold TX' SX SE; omega)).mu (by unfold TX' SX SE; omega)
