/-- how reading a part ends -/
def OUT (d dp n p : Nat) (rt : Int) (s : Mem) (Z : Option Res) (x : PR Jvm.Term) : Prop :=
  match x with
  | .ok (e, q) => ∃ (s' : Mem) (j' : Nat) (l4 l5 l6 : AV), Z = Ze d 22 9 [aR 0, aI dp, aI n, aI rt, l4, l5, l6] [] s' ∧ RE s' e n ∧ s' 0 32 = ((n + esz e : Nat) : Int) ∧ s' 0 2 = j' ∧ sk (tx s) j' = q ∧ j' ≤ (tx s).2 ∧ p < j' ∧ n + esz e ≤ j' ∧ Fr (TE n dp) s s'
  | .error f => ∃ s', Z = rI 0 s' ∧ s' 0 5 = 1 ∧ s' 0 3 = f ∧ Fr (TX' n dp) s s'
theorem OUT_tr {d dp n p p0 : Nat} {rt : Int} {s s0 : Mem} {Z : Option Res} {x : PR Jvm.Term} (h : OUT d dp n p rt s Z x) (ht : tx s = tx s0) (f : Fr (TE n dp) s0 s) (hp : p0 ≤ p) : OUT d dp n p0 rt s0 Z x := by
  unfold OUT at *
  split at h
  next e q =>
    obtain ⟨s', j', l4, l5, l6, h1, h2, h3, h4, h5, h6, h7, h8, h9⟩ := h
    rw [ht] at h5 h6
    exact ⟨s', j', l4, l5, l6, h1, h2, h3, h4, h5, h6, by omega, h8, f.tr h9⟩
  next g =>
    obtain ⟨s', h1, h2, h3, h4⟩ := h
    exact ⟨s', h1, h2, h3, (f.mono (fun _ _ => TE_X)).tr h4⟩
def IHE (d dp D : Nat) : Prop := ∀ (j p n : Nat) (s : Mem) (rt : Int) (l4 l5 l6 : AV), okT s → s 0 5 = 0 → s 0 2 = j → j ≤ (tx s).2 → sk (tx s) j = p → s 0 32 = n → n ≤ j →
  OUT d dp n p rt s (Ze d 22 9 [aR 0, aI dp, aI (-1), aI rt, l4, l5, l6] [] s) (pEx (tx s) D p)
theorem TE_AG {s s' : Mem} {m dp : Nat} (h : Fr (TE m dp) s s') : AG s s' 0 m := ⟨fun k j _ _ h2 => h _ _ (by unfold TE SE; omega), fun j _ h2 => h _ _ (by unfold TE SE; omega)⟩
/-- one more part of node n, read -/
theorem te_child {d dp D n m j : Nat} (ih : IHE d (dp + 1) D) (s : Mem) (c g : Int) (M0 : MID s n dp c g m j) (rt : Int) (l4 l5 l6 : AV) :
    match pEx (tx s) D (sk (tx s) j) with
    | .ok (e, q) => ∃ (s' : Mem) (j' : Nat) (l4' l5' l6' : AV), Ze d 22 9 [aR 0, aI ((dp : Int) + 1), aI (-1), aI rt, l4, l5, l6] [] s = Ze d 22 9 [aR 0, aI ((dp : Int) + 1), aI m, aI rt, l4', l5', l6'] [] s' ∧ MID s' n dp c g (m + esz e) j' ∧ sk (tx s) j' = q ∧ tx s' = tx s ∧ RE s' e m ∧ AG s s' 0 m ∧ Fr (TE n dp) s s' ∧ sk (tx s) j < j'
    | .error f => ∃ s', Ze d 22 9 [aR 0, aI ((dp : Int) + 1), aI (-1), aI rt, l4, l5, l6] [] s = rI 0 s' ∧ s' 0 5 = 1 ∧ s' 0 3 = f ∧ Fr (TX' n dp) s s' := by
  obtain ⟨ho, hb, hkd, hst, hgt, hnd, hat, hj, hmj, hnm⟩ := M0
  have h := ih j _ m s rt l4 l5 l6 ho hb hat hj rfl hnd hmj
  have hdp : (((dp + 1 : Nat)) : Int) = (dp : Int) + 1 := by omega
  have hlen := tx_le ho
  unfold OUT at h
  split at h
  next e q hq =>
    obtain ⟨s', j', m4, m5, m6, h1, h2, h3, h4, h5, h6, h7, h8, h9⟩ := h
    rw [hdp] at h1
    obtain ⟨x1, o1, b1, w1⟩ := fr_te h9 ho
    refine ⟨s', j', m4, m5, m6, h1, ⟨o1, by rw [b1, hb], ?_, ?_, ?_, h3, h4, by rw [x1]; exact h6, h8, by omega⟩, h5, x1, h2, TE_AG h9, h9.mono (fun _ _ => TE_sub (by omega)), h7⟩
    · rw [h9 _ _ (by unfold TE SE; omega), hkd]
    · rw [h9 _ _ (by unfold TE SE; omega), hst]
    · rw [h9 _ _ (by unfold TE SE; omega), hgt]
  next f hq =>
    obtain ⟨s', h1, h2, h3, h4⟩ := h
    rw [hdp] at h1
    exact ⟨s', h1, h2, h3, h4.mono (fun _ _ => TX_sub2 (by omega))⟩
theorem put_AG {s s' : Mem} {n dp b : Nat} {g v : Int} (h : ∀ k j, (12 ≤ k ∧ k ≤ 18 ∨ k = 21 ∨ k = 20) → j ≠ n ∨ k = 20 → s' k j = s_put s n dp g v k j) : AG s s' (n + 1) b :=
  ⟨fun k j h1 h2 _ => by rw [h k j (by omega) (Or.inl (by omega)), s_put_ne (by omega) (by omega)], fun j _ _ => by rw [h 20 j (by omega) (Or.inr rfl), s_put_off (by omega) (by omega)]⟩
theorem end_AG {s : Mem} {n dp m p b : Nat} {g v : Int} : AG s (s_end s n dp g v p m) (n + 1) b := put_AG (dp := dp) (g := g) (v := v) (fun k j hk hj => by
  unfold s_end
  rcases hj with hj | hj
  · rw [mu_i hj, mu_c (by omega)]
  · rw [mu_c (by omega), mu_c (by omega)])
theorem more_AG {s : Mem} {n dp p b : Nat} {g v : Int} : AG s (mu (s_put s n dp g v) 0 2 ((p : Int) + 1)) (n + 1) b := put_AG (dp := dp) (g := g) (v := v) (fun k j hk hj => mu_c (by omega))
/-- the two parts of c -/
theorem te_two {d dp D n j : Nat} (hd : 7 ≤ d) (hdp : dp < 6) (ih : IHE d (dp + 1) D) (s : Mem) (c : Nat) (hc : two c) (M0 : MID s n dp c 0 (n + 1) j) (rt : Int) (l4 l5 l6 : AV) :
    OUT d dp n (sk (tx s) j) rt s (Ze d 22 9 [aR 0, aI ((dp : Int) + 1), aI (-1), aI rt, l4, l5, l6] [] s)
      (bd (pEx (tx s) D (sk (tx s) j)) fun a p2 => bd (pTk (tx s) 44 p2) fun _ p3 => bd (pEx (tx s) D p3) fun b p4 => bd (pTk (tx s) 41 p4) fun _ p5 => .ok (eTwo c a b, p5)) := by
  have h1 := te_child ih s c 0 M0 rt l4 l5 l6
  have k1 : ¬ (c : Int) = 84 := by unfold two at hc; omega
  have k2 : ¬ (c : Int) = 33 := by unfold two at hc; omega
  have k3 : ¬ (c : Int) = 77 := by unfold two at hc; omega
  cases hq : pEx (tx s) D (sk (tx s) j) with
  | error f => rw [hq] at h1; exact h1
  | ok t =>
    obtain ⟨a, p2⟩ := t
    rw [hq] at h1
    obtain ⟨s1, j1, m4, m5, m6, z1, M1, hp2, x1, r1, g1, f1, hj1⟩ := h1
    rw [bd_ok, z1]
    have h2 := te_more' hd hdp s1 c 0 ((n + 1 : Nat) : Int) M1 (p := p2) (by rw [x1]; exact hp2) (by omega) rt m4 m5 m6 (by omega) k1 k2 (by rw [if_neg k3]; omega)
    rw [x1] at h2
    by_cases h44 : cA (tx s) p2 = 44
    · obtain ⟨z2, M2, f2⟩ := h2.1 h44
      replace M2 : MID (mu (s_put s1 n dp 0 ((n + 1 : Nat) : Int)) 0 2 ((p2 : Int) + 1)) n dp c 1 (n + 1 + esz a) (p2 + 1) := M2
      rw [pTk_ok h44, bd_ok, z2]
      have hg2 : AG s1 (mu (s_put s1 n dp 0 ((n + 1 : Nat) : Int)) 0 2 ((p2 : Int) + 1)) (n + 1) (n + 1 + esz a) := put_AG (dp := dp) (g := 0) (v := ((n + 1 : Nat) : Int)) (fun k j hk hj => mu_c (by omega))
      have pa2 : mu (s_put s1 n dp 0 ((n + 1 : Nat) : Int)) 0 2 ((p2 : Int) + 1) 15 n = ((n + 1 : Nat) : Int) := by rw [mu_c (by decide), s_put_0.1]
      generalize mu (s_put s1 n dp 0 ((n + 1 : Nat) : Int)) 0 2 ((p2 : Int) + 1) = s2 at *
      have r2 := RE_put r1 hg2
      have f12 := f1.tr f2
      have x2 : tx s2 = tx s := (fr_te f12 M0.1).1
      have h3 := te_child ih s2 c 1 M2 rt (aI n) (aI c) (aI 1)
      rw [x2] at h3
      cases hq3 : pEx (tx s) D (sk (tx s) (p2 + 1)) with
      | error f =>
        rw [hq3] at h3
        obtain ⟨s', e1, e2, e3, e4⟩ := h3
        exact ⟨s', e1, e2, e3, (f12.mono (fun _ _ => TE_X)).tr e4⟩
      | ok t =>
        obtain ⟨b, p4⟩ := t
        rw [hq3] at h3
        obtain ⟨s3, j3, q4, q5, q6, z3, M3, hp4, x3, r3, g3, f3, hj3⟩ := h3
        rw [bd_ok, z3]
        have f13 := f12.tr f3
        have x3' : tx s3 = tx s := x3
        have h4 := te_last' hd hdp s3 c 1 ((n + 1 + esz a : Nat) : Int) M3 (p := p4) (by rw [x3']; exact hp4) (by omega) rt q4 q5 q6 (by omega) k1 (Or.inr (by rw [if_neg k3]; omega))
        rw [x3'] at h4
        by_cases h41 : cA (tx s) p4 = 41
        · obtain ⟨z4, hp4l, f4⟩ := h4.1 h41
          rw [pTk_ok h41, bd_ok, z4]
          have hp24 := sk_ge (tx s) (p2 + 1)
          have hp21 := sk_ge (tx s) j1
          have hp43 := sk_ge (tx s) j3
          have hm3 := M3.2.2.2.2.2.2.2.2.1
          have ag4 : AG s3 (s_end s3 n dp 1 ((n + 1 + esz a : Nat) : Int) p4 (n + 1 + esz a + esz b)) (n + 1) (n + 1 + esz a + esz b) := put_AG (dp := dp) (g := 1) (v := ((n + 1 + esz a : Nat) : Int)) (fun k j hk hj => by
            unfold s_end
            rcases hj with hj | hj
            · rw [mu_i hj, mu_c (by omega)]
            · rw [mu_c (by omega), mu_c (by omega)])
          refine ⟨s_end s3 n dp 1 ((n + 1 + esz a : Nat) : Int) p4 (n + 1 + esz a + esz b), p4 + 1, _, _, _, rfl, ⟨?_, hc, ?_, ?_, ?_, ?_, ?_⟩, ?_, ?_, rfl, by omega, by omega, ?_, f13.tr f4⟩
          · unfold s_end
            rw [mu_c (by decide), mu_c (by decide), s_put_off (by decide) (by decide), M3.2.2.1]
          · unfold s_end
            rw [mu_c (by decide), mu_c (by decide), (s_put_1 (s := s3)).2.1, g3.1 _ _ (by decide) (by omega) (by omega), pa2]
          · unfold s_end
            rw [mu_c (by decide), mu_c (by decide)]
            exact (s_put_1 (s := s3)).1
          · unfold s_end
            rw [mu_s]
          · exact RE_put (RE_put r2 (g3.sub (by omega) (by omega))) (ag4.sub (by omega) (by omega))
          · exact RE_put r3 (ag4.sub (by omega) (by omega))
          · unfold s_end
            rw [mu_c (by decide), mu_i (by decide), s_put_off (by decide) (by decide), M3.2.2.2.2.2.1]
            simp only [eTwo, esz]
            omega
          · unfold s_end
            rw [mu_c (by decide), mu_s]
            omega
          · simp only [eTwo, esz]
            omega
        · obtain ⟨s', e1, e2, e3, e4⟩ := h4.2 h41
          rw [pTk_no h41, bd_er]
          exact ⟨s', e1, e2, e3, (f13.mono (fun _ _ => TE_X)).tr e4⟩
    · obtain ⟨s', e1, e2, e3, e4⟩ := h2.2 h44
      rw [pTk_no h44, bd_er]
      exact ⟨s', e1, e2, e3, (f1.mono (fun _ _ => TE_X)).tr e4⟩
