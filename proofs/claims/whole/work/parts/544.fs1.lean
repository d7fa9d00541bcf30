theorem t_fs1 {d D o t p3 j1 m c y n b : Nat} (hd : 6 ≤ d) (ihT : TI d D) (hoD : o + 1 + D = 3) {p : Nat} (s s1 : Mem) (f : Int) (k : Int) (l3 : AV) (ho : okT s) (hb : s 0 5 = 0) (hm : s 0 16 = m) (hop : s 0 18 = ((o + 1 : Nat) : Int)) (hot : s 10 o = t) (htm : t < m) (hfc : f < c) (hy : s 5 t = y) (hy25 : y ≤ 25) (hmj : m ≤ p) (hcj : 2 * c ≤ p)
    (h1 : Zc d 14 [aR 0] s = rV s1) (h2 : sk (tx s) j1 = p3) (h3 : j1 ≤ (tx s).2) (h4 : p + 2 ≤ j1) (F1 : Fr (FF m c o t f) s s1)
    (a1 : s1 0 2 = j1) (a2 : s1 0 17 = ((c + 1 : Nat) : Int)) (a3 : s1 11 o = c) (a4 : s1 6 c = n) (a5 : s1 9 c = b) (a6 : s1 8 c = -1) (a7 : f < 0 → s1 4 t = c) (a8 : 0 ≤ f → s1 8 f.toNat = c)
    (a9 : ∀ i, i ≠ 2 → i ≠ 17 → s1 0 i = s 0 i) (a11 : s1 10 o = t) (a12 : s1 5 t = y) :
    match pTy (tx s) D p3 with
    | .ok (t1, p4) => FS d o t m c y p n b f k l3 s t1 p4
    | .error e => ∃ (s1 s' : Mem), Zc d 14 [aR 0] s = rV s1 ∧ Ze d 15 7 [aR 0, aI (-1), aI k, l3] [] s1 = rI 0 s' ∧ s' 0 5 = 1 ∧ s' 0 3 = e ∧ Fr (FFX m c o t f) s s' := by
  obtain ⟨x1, o1, b1, w1⟩ := fr_ff F1 ho
  have hT := ihT (o + 1) j1 p3 m (c + 1) s1 (aI k) l3 hoD o1 (by rw [b1, hb]) a1 (by rw [x1]; exact h3) (by rw [x1, h2]) (by rw [a9 _ (by decide) (by decide), hm]) a2 (by rw [a9 _ (by decide) (by decide), hop]) (by omega) (by omega)
  rw [x1] at hT
  have hlen := tx_le ho
  cases hq2 : pTy (tx s) D p3 with
  | error e =>
    rw [hq2] at hT
    obtain ⟨s', e1, e2, e3, e4⟩ := hT
    exact ⟨s1, s', h1, e1, e2, e3, (F1.mono (fun _ _ => FF_X)).tr (e4.mono (fun _ _ => TFX_FF))⟩
  | ok tp =>
    obtain ⟨t1, p4⟩ := tp
    rw [hq2] at hT
    obtain ⟨s2, n1, m2, c2, j2, l2', l3', z2, R2, m2e, c2e, op2, at2, sk2, j2l, j2g, m2j, c2j, ⟨mm2, cc2⟩, h91, F2⟩ := hT
    rw [x1] at sk2 j2l h91
    obtain ⟨x2, o2, b2, w2⟩ := fr_tf F2 o1
    rw [x1] at x2
    rw [b1, hb] at b2
    obtain ⟨r1, r2, r3, r4⟩ := RT_size R2
    rw [Int.toNat_natCast] at r3
    have F12 : Fr (FF m c o t f) s s2 := F1.tr (F2.mono (fun _ _ => TF_FF))
    clear F1
    have hp4g := sk_ge (tx s) j2
    have hp4l := sk_le (tx s) j2l
    have hp3g := sk_ge (tx s) j1
    rw [sk2] at hp4g hp4l
    rw [h2] at hp3g
    have z3 := tt_there (n := n1) (by omega) s2 o2 b2 at2 (by rw [x2]; exact j2l) (by rw [x2, sk2]) l2' l3' (d := d)
    rw [x2] at z3
    have G2 : ∀ k j, ¬ TF m (c + 1) (o + 1) k j → s2 k j = s1 k j := fun k j h => F2 _ _ h
    have ot2 : s2 10 o = t := by rw [G2 _ _ (TF_n1 (by decide)), a11]
    have of2 : s2 11 o = c := by rw [G2 _ _ (TF_n1 (by decide)), a3]
    have ts2 : s2 5 t = y := by rw [G2 _ _ (TF_n2 (by decide) htm), a12]
    have z4 := tt_att (d := d) (t := t) (f := c) (n := n1) (mu s2 0 2 (p4 : Int)) (by rw [mu_i (by decide)]; exact op2) (by omega) (by rw [mu_c (by decide), ot2]) (by omega) (by rw [mu_c (by decide), of2]) (by omega) (by omega) y (min 25 (tsz t1)) (by rw [mu_c (by decide), ts2]) (by rw [mu_c (by decide), r3]) (by omega) (cA (tx s) p4) h91 l3'
    generalize hs4 : mu (mu (mu s2 0 2 (p4 : Int)) 7 c n1) 5 t ((min 25 (y + min 25 (tsz t1)) : Nat) : Int) = s4 at z4
    have F24 : Fr (fun k j => (k = 0 ∧ j = 2) ∨ (k = 7 ∧ j = c) ∨ (k = 5 ∧ j = t)) s2 s4 := by
      rw [← hs4]
      exact F3_fr
    have F14 : Fr (FF m c o t f) s s4 := F12.tr (F24.mono (fun _ _ => F3_FF))
    have G4 : ∀ k j, (k = 0 ∧ ¬ j = 2) ∨ (k ≠ 0 ∧ k ≠ 7 ∧ k ≠ 5) → s4 k j = s2 k j := fun k j h => F24 _ _ (F3_no h)
    have zz : Ze d 15 7 [aR 0, aI (-1), aI k, l3] [] s1 = Ze d 15 333 [aR 0, aI (-1), aI (cA (tx s) p4), l3'] [] s4 := (z2.trans z3).trans z4
    clear z2 z3 z4
    refine ⟨s1, s4, n1, m2, c2, l3', h1, zz, F14, ⟨?_, ?_, ?_, ?_⟩, ⟨?_, ?_⟩, ⟨?_, ?_, ?_, ?_⟩, ?_, r4, ⟨fun h => ?_, fun h => ?_⟩, ?_, mm2, cc2, by omega, by omega, by omega, by omega⟩
    · rw [← hs4, mu_c (by decide), mu_c (by decide), mu_s]
    · rw [G4 _ _ (Or.inl (by decide)), m2e]
    · rw [G4 _ _ (Or.inl (by decide)), c2e]
    · rw [G4 _ _ (Or.inl (by decide)), op2]
    · rw [G4 _ _ (Or.inr (by decide)), ot2]
    · rw [G4 _ _ (Or.inr (by decide)), of2]
    · rw [G4 _ _ (Or.inr (by decide)), G2 _ _ (TF_n3 (by decide)), a4]
    · rw [G4 _ _ (Or.inr (by decide)), G2 _ _ (TF_n3 (by decide)), a5]
    · rw [← hs4, mu_c (by decide), mu_s]
    · rw [G4 _ _ (Or.inr (by decide)), G2 _ _ (TF_n3 (by decide)), a6]
    · rw [← hs4, mu_s]
    · rw [G4 _ _ (Or.inr (by decide)), G2 _ _ (TF_n2 (by decide) htm), a7 h]
    · rw [G4 _ _ (Or.inr (by decide)), G2 _ _ (TF_n4 (by decide) (by omega)), a8 h]
    · exact RT_put (fun k j h => F24 _ _ (F3_nR htm h)) R2
