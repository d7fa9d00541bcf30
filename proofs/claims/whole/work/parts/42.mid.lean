theorem TE_X {n dp k j : Nat} (h : TE n dp k j) : TX' n dp k j := by
  unfold TE at h
  unfold TX' SX
  rcases h with h | h
  · exact Or.inl (Or.inl h)
  · exact Or.inr h
theorem TX_sub {n dp k j : Nat} (h : TX' (n + 1) (dp + 1) k j) : TX' n dp k j := by unfold TX' SX SE at *; omega
theorem TE_sub {n m dp k j : Nat} (hm : n ≤ m) (h : TE m (dp + 1) k j) : TE n dp k j := by unfold TE SE at *; omega
theorem TX_sub2 {n m dp k j : Nat} (hm : n ≤ m) (h : TX' m (dp + 1) k j) : TX' n dp k j := by unfold TX' SX SE at *; omega
theorem TX_len {n dp : Nat} : ¬ TX' n dp 0 1 := by unfold TX' SX SE; omega
theorem TX_txt {n dp : Nat} : ∀ j, ¬ TX' n dp 1 j := by intro j; unfold TX' SX SE; omega
theorem fr_te {n dp : Nat} {a b : Mem} (h : Fr (TE n dp) a b) (ho : okT a) : tx b = tx a ∧ okT b ∧ b 0 5 = a 0 5 ∧ b 0 3 = a 0 3 :=
  ⟨(h.mono (fun _ _ => TE_X)).tx TX_len TX_txt, (h.mono (fun _ _ => TE_X)).okT TX_len TX_txt ho, h _ _ (by unfold TE SE; omega), h _ _ (by unfold TE SE; omega)⟩
/-- between the parts of node n -/
def MID (s : Mem) (n dp : Nat) (c g : Int) (m j : Nat) : Prop := okT s ∧ s 0 5 = 0 ∧ s 12 n = c ∧ s 23 dp = n ∧ s 24 dp = g ∧ s 0 32 = m ∧ s 0 2 = j ∧ j ≤ (tx s).2 ∧ m ≤ j ∧ n < m
/-- the part v laid into node n, and one more counted -/
def s_put (s : Mem) (n dp : Nat) (g v : Int) : Mem := mu (putM s n g v) 24 dp (g + 1)
theorem s_put_fr {s : Mem} {n dp : Nat} {g v : Int} (hn : n < 220) : Fr (TE n dp) s (s_put s n dp g v) := by
  unfold s_put putM
  refine Fr.mu ?_ (by unfold TE; omega)
  split
  · exact (Fr.rf s).mu (by unfold TE SE; omega)
  · split
    · exact (Fr.rf s).mu (by unfold TE SE; omega)
    · exact (Fr.rf s).mu (by unfold TE SE; omega)
theorem s_put_off {s : Mem} {n dp : Nat} {g v : Int} {k j : Nat} (h : ¬ (15 ≤ k ∧ k ≤ 17)) (h2 : k ≠ 24) : s_put s n dp g v k j = s k j := by
  unfold s_put
  rw [mu_c h2, putM_off h]
theorem s_put_ne {s : Mem} {n dp : Nat} {g v : Int} {k j : Nat} (h : j ≠ n) (h2 : k ≠ 24) : s_put s n dp g v k j = s k j := by
  unfold s_put putM
  rw [mu_c h2]
  split
  · exact mu_i h
  · split
    · exact mu_i h
    · exact mu_i h
theorem s_put_0 {s : Mem} {n dp : Nat} {v : Int} : s_put s n dp 0 v 15 n = v ∧ s_put s n dp 0 v 16 n = s 16 n ∧ s_put s n dp 0 v 17 n = s 17 n := by
  unfold s_put putM
  rw [if_pos rfl]
  exact ⟨by rw [mu_c (by decide), mu_s], by rw [mu_c (by decide), mu_c (by decide)], by rw [mu_c (by decide), mu_c (by decide)]⟩
theorem s_put_1 {s : Mem} {n dp : Nat} {v : Int} : s_put s n dp 1 v 16 n = v ∧ s_put s n dp 1 v 15 n = s 15 n ∧ s_put s n dp 1 v 17 n = s 17 n := by
  unfold s_put putM
  rw [if_neg (by decide), if_pos rfl]
  exact ⟨by rw [mu_c (by decide), mu_s], by rw [mu_c (by decide), mu_c (by decide)], by rw [mu_c (by decide), mu_c (by decide)]⟩
theorem s_put_2 {s : Mem} {n dp : Nat} {v : Int} : s_put s n dp 2 v 17 n = v ∧ s_put s n dp 2 v 15 n = s 15 n ∧ s_put s n dp 2 v 16 n = s 16 n := by
  unfold s_put putM
  rw [if_neg (by decide), if_neg (by decide)]
  exact ⟨by rw [mu_c (by decide), mu_s], by rw [mu_c (by decide), mu_c (by decide)], by rw [mu_c (by decide), mu_c (by decide)]⟩
/-- a part read, and a , behind it: or a fault there -/
theorem te_more' {d dp n m j p : Nat} (hd : 7 ≤ d) (hdp : dp < 6) (s : Mem) (c g v : Int) (M0 : MID s n dp c g m j) (hp : sk (tx s) j = p) (hv : 0 ≤ v) (rt : Int) (l4 l5 l6 : AV) (hg3 : 0 ≤ g ∧ g ≤ 2) (hk1 : ¬ c = 84) (hk2 : ¬ c = 33) (hm : g + 1 < (if c = 77 then 3 else 2)) :
    (cA (tx s) p = 44 → Ze d 22 9 [aR 0, aI ((dp : Int) + 1), aI v, aI rt, l4, l5, l6] [] s = Ze d 22 9 [aR 0, aI ((dp : Int) + 1), aI (-1), aI rt, aI n, aI c, aI 1] [] (mu (s_put s n dp g v) 0 2 ((p : Int) + 1)) ∧
      MID (mu (s_put s n dp g v) 0 2 ((p : Int) + 1)) n dp c (g + 1) m (p + 1) ∧ Fr (TE n dp) s (mu (s_put s n dp g v) 0 2 ((p : Int) + 1))) ∧
    (¬ cA (tx s) p = 44 → ∃ s', Ze d 22 9 [aR 0, aI ((dp : Int) + 1), aI v, aI rt, l4, l5, l6] [] s = rI 0 s' ∧ s' 0 5 = 1 ∧ s' 0 3 = p ∧ Fr (TX' n dp) s s') := by
  obtain ⟨ho, hb, hkd, hst, hgt, hnd, hat, hj, hmj, hnm⟩ := M0
  have hlen := tx_le ho
  have hn : n < 220 := by omega
  have f1 := s_put_fr (s := s) (dp := dp) (g := g) (v := v) hn
  obtain ⟨x1, o1, b1, w1⟩ := fr_te f1 ho
  have a1 : s_put s n dp g v 0 2 = j := by rw [s_put_off (by decide) (by decide), hat]
  have hpn := sk_le (tx s) hj
  have hpj := sk_ge (tx s) j
  rw [hp] at hpn hpj
  refine ⟨fun h => ?_, fun h => ?_⟩
  · have hpl : p < (tx s).2 := cA_in (by omega)
    have hk := t_exp_ok (d := d) (by omega) _ o1 a1 (by rw [x1]; exact hj) (c := 44) (by decide) (by rw [x1, hp]; exact h)
    rw [x1, hp] at hk
    have f2 : Fr (TE n dp) s (mu (s_put s n dp g v) 0 2 ((p : Int) + 1)) := f1.mu (by unfold TE SE; omega)
    obtain ⟨x2, o2, b2, w2⟩ := fr_te f2 ho
    refine ⟨te_more hd hdp hn s _ hb rt c g v hv l4 l5 l6 hst hkd hgt hg3 hk1 hk2 hm hk, ⟨o2, by rw [b2, hb], ?_, ?_, ?_, ?_, by rw [mu_s]; omega, by rw [x2]; omega, by omega, hnm⟩, f2⟩
    · rw [mu_c (by decide), s_put_off (by decide) (by decide), hkd]
    · rw [mu_c (by decide), s_put_off (by decide) (by decide), hst]
    · rw [mu_c (by decide)]; unfold s_put; rw [mu_s]
    · rw [mu_i (by decide), s_put_off (by decide) (by decide), hnd]
  · have hk := t_exp_no (d := d) (by omega) _ o1 (by rw [b1, hb]) a1 (by rw [x1]; exact hj) (c := 44) (by decide) (by rw [x1, hp]; exact h)
    rw [x1, hp] at hk
    refine ⟨_, (te_more hd hdp hn s _ hb rt c g v hv l4 l5 l6 hst hkd hgt hg3 hk1 hk2 hm hk).trans (te_exit _ (by rw [mu_s]; decide) _ _ _ _ _ _), mu_s, by rw [mu_i (by decide), mu_s], ?_⟩
    exact (((f1.mono (fun _ _ => TE_X)).mu (by unfold TX' SX SE; omega)).mu (by unfold TX' SX SE; omega)).mu (by unfold TX' SX SE; omega)
/-- the last part read, and a ) behind it -/
def s_end (s : Mem) (n dp : Nat) (g v : Int) (p m : Nat) : Mem := mu (mu (s_put s n dp g v) 0 2 ((p : Int) + 1)) 18 n m
theorem te_last' {d dp n m j p : Nat} (hd : 7 ≤ d) (hdp : dp < 6) (s : Mem) (c g v : Int) (M0 : MID s n dp c g m j) (hp : sk (tx s) j = p) (hv : 0 ≤ v) (rt : Int) (l4 l5 l6 : AV) (hg3 : 0 ≤ g ∧ g ≤ 2) (hk1 : ¬ c = 84) (hm : c = 33 ∨ ¬ g + 1 < (if c = 77 then 3 else 2)) :
    (cA (tx s) p = 41 → Ze d 22 9 [aR 0, aI ((dp : Int) + 1), aI v, aI rt, l4, l5, l6] [] s = Ze d 22 9 [aR 0, aI dp, aI n, aI rt, aI n, aI c, aI 0] [] (s_end s n dp g v p m) ∧ p < (tx s).2 ∧ Fr (TE n dp) s (s_end s n dp g v p m)) ∧
    (¬ cA (tx s) p = 41 → ∃ s', Ze d 22 9 [aR 0, aI ((dp : Int) + 1), aI v, aI rt, l4, l5, l6] [] s = rI 0 s' ∧ s' 0 5 = 1 ∧ s' 0 3 = p ∧ Fr (TX' n dp) s s') := by
  obtain ⟨ho, hb, hkd, hst, hgt, hnd, hat, hj, hmj, hnm⟩ := M0
  have hlen := tx_le ho
  have hn : n < 220 := by omega
  have f1 := s_put_fr (s := s) (dp := dp) (g := g) (v := v) hn
  obtain ⟨x1, o1, b1, w1⟩ := fr_te f1 ho
  have a1 : s_put s n dp g v 0 2 = j := by rw [s_put_off (by decide) (by decide), hat]
  have hpn := sk_le (tx s) hj
  have hpj := sk_ge (tx s) j
  rw [hp] at hpn hpj
  refine ⟨fun h => ?_, fun h => ?_⟩
  · have hpl : p < (tx s).2 := cA_in (by omega)
    have hk := t_exp_ok (d := d) (by omega) _ o1 a1 (by rw [x1]; exact hj) (c := 41) (by decide) (by rw [x1, hp]; exact h)
    rw [x1, hp] at hk
    have := te_last hd hdp hn s _ hb rt c g v hv l4 l5 l6 hst hkd hgt hg3 hk1 hm hk
    have hnd2 : mu (s_put s n dp g v) 0 2 ((p : Int) + 1) 0 32 = m := by rw [mu_i (by decide), s_put_off (by decide) (by decide), hnd]
    rw [hnd2] at this
    exact ⟨this, hpl, (f1.mu (by unfold TE SE; omega)).mu (by unfold TE SE; omega)⟩
  · have hk := t_exp_no (d := d) (by omega) _ o1 (by rw [b1, hb]) a1 (by rw [x1]; exact hj) (c := 41) (by decide) (by rw [x1, hp]; exact h)
    rw [x1, hp] at hk
    refine ⟨_, (te_last hd hdp hn s _ hb rt c g v hv l4 l5 l6 hst hkd hgt hg3 hk1 hm hk).trans (te_exit _ (by rw [mu_c (by decide), mu_s]; decide) _ _ _ _ _ _), by rw [mu_c (by decide), mu_s], by rw [mu_c (by decide), mu_i (by decide), mu_s], ?_⟩
    exact ((((f1.mono (fun _ _ => TE_X)).mu (by unfold TX' SX SE; omega)).mu (by unfold TX' SX SE; omega)).mu (by unfold TX' SX SE; omega)).mu (by unfold TX' SX SE; omega)
