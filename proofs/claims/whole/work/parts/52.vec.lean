def OT (d o m c p : Nat) (s : Mem) (Z : Option Res) (x : PR Jvm.Term) : Prop :=
  match x with
  | .ok (t, q) => ∃ (s' : Mem) (n m' c' j' : Nat) (l2 l3 : AV), Z = Ze d 15 7 [aR 0, aI n, l2, l3] [] s' ∧ RT s' m m' c c' true t n ∧ s' 0 16 = m' ∧ s' 0 17 = c' ∧ s' 0 18 = o ∧ s' 0 2 = j' ∧ sk (tx s) j' = q ∧ j' ≤ (tx s).2 ∧ p < j' ∧ m' ≤ j' ∧ 2 * c' ≤ j' ∧ (m ≤ m' ∧ c ≤ c') ∧ ¬ cA (tx s) q = 91 ∧ Fr (TF m c o) s s'
  | .error f => ∃ s', Z = rI 0 s' ∧ s' 0 5 = 1 ∧ s' 0 3 = f ∧ Fr (TFX m c o) s s'
theorem OT_tr {d o m c p p0 : Nat} {s s0 : Mem} {Z : Option Res} {x : PR Jvm.Term} (h : OT d o m c p s Z x) (ht : tx s = tx s0) (f : Fr (TF m c o) s0 s) (hp : p0 ≤ p) : OT d o m c p0 s0 Z x := by
  unfold OT at *
  split at h
  next e q =>
    obtain ⟨s', n, m', c', j', l2, l3, h1, h2, h3, h4, h5, h6, h7, h8, h9, h10, h11, h12, h13, h14⟩ := h
    rw [ht] at h7 h8 h13
    exact ⟨s', n, m', c', j', l2, l3, h1, h2, h3, h4, h5, h6, h7, h8, by omega, h10, h11, h12, h13, f.tr h14⟩
  next g =>
    obtain ⟨s', h1, h2, h3, h4⟩ := h
    exact ⟨s', h1, h2, h3, (f.mono (fun _ _ => TF_X)).tr h4⟩
theorem nType_at {s : Mem} {n : Nat} {a b c e : Int} : nType s n a b c e 2 n = a ∧ nType s n a b c e 3 n = b ∧ nType s n a b c e 4 n = c ∧ nType s n a b c e 5 n = e ∧ nType s n a b c e 0 16 = ((n + 1 : Nat) : Int) := by
  unfold nType
  refine ⟨?_, ?_, ?_, ?_, ?_⟩
  · rw [mu_c (by decide), mu_c (by decide), mu_c (by decide), mu_c (by decide), mu_s]
  · rw [mu_c (by decide), mu_c (by decide), mu_c (by decide), mu_s]
  · rw [mu_c (by decide), mu_c (by decide), mu_s]
  · rw [mu_c (by decide), mu_s]
  · rw [mu_s]; omega
theorem nType_fr {s : Mem} {n o c' : Nat} {a b c e : Int} : Fr (TF n c' o) s (nType s n a b c e) := by
  unfold nType
  exact (((((Fr.rf s).mu (by unfold TF; omega)).mu (by unfold TF; omega)).mu (by unfold TF; omega)).mu (by unfold TF; omega)).mu (by unfold TF; omega)
theorem nType_0 {s : Mem} {n : Nat} {a b c e : Int} {j : Nat} (h : j ≠ 16) : nType s n a b c e 0 j = s 0 j := by
  unfold nType
  rw [mu_i h, mu_c (by decide), mu_c (by decide), mu_c (by decide), mu_c (by decide)]
/-- the [ ] behind a type -/
theorem t_vec {d o m c p0 : Nat} (hd : 6 ≤ d) : ∀ (f p j n m' c' : Nat) (s : Mem) (t : Jvm.Term) (l2 l3 : AV), okT s → s 0 5 = 0 → s 0 2 = j → j ≤ (tx s).2 → sk (tx s) j = p → (tx s).2 < p + f → s 0 16 = m' → s 0 17 = c' → s 0 18 = o → m' ≤ j → 2 * c' ≤ j → m ≤ m' → c ≤ c' → p0 < j → RT s m m' c c' true t n →
    OT d o m c p0 s (Ze d 15 7 [aR 0, aI n, l2, l3] [] s) (pVec (tx s) f t p) := by
  intro f
  induction f with
  | zero =>
    intro p j n m' c' s t l2 l3 ho hb hat hj hp hf
    have := sk_le (tx s) hj
    omega
  | succ f ih =>
    intro p j n m' c' s t l2 l3 ho hb hat hj hp hf hm hc hop hmj hcj hmm hcc hpj hR
    have hlen := tx_le ho
    have hpg := sk_ge (tx s) j
    have hpl := sk_le (tx s) hj
    rw [hp] at hpg hpl
    obtain ⟨r1, r2, r3, r4⟩ := RT_size hR
    unfold pVec
    by_cases h91 : cA (tx s) p = 91
    · rw [if_pos h91, tt_there (by omega) s ho hb hat hj hp, h91]
      have hpl' : p < (tx s).2 := cA_in (by omega)
      obtain ⟨a1, a2, a3, a4⟩ := at_st ho ((p : Int) + 1)
      have hp1 := sk_le (tx s) (j := p + 1) (by omega)
      have hp1' := sk_ge (tx s) (p + 1)
      generalize hs0 : mu s 0 2 (p : Int) = s0
      have t0 : s0 0 2 = p := by rw [← hs0, mu_s]
      have e0 : mu s0 0 2 ((p : Int) + 1) = mu s 0 2 ((p : Int) + 1) := by rw [← hs0, mu_mu]
      by_cases hN : okNu (tx s) 1 4 (sk (tx s) (p + 1))
      · rw [pNu_ok hN, bd_ok]
        have hk := t_num_ok (d := d) (by omega) _ a2 (j := p + 1) (a3.trans (by omega)) (by rw [a1]; omega) (lo := 1) (hi := 4) (by rw [a1]; exact hN)
        rw [a1, mu_mu] at hk
        have hq1 := nE_le (tx s) hp1
        have hq1' := nE_ge (tx s) (sk (tx s) (p + 1))
        obtain ⟨-, -, -, g1, g2⟩ := hN
        have hvv : ∃ vv : Nat, nV (tx s) (sk (tx s) (p + 1)) (nE (tx s) (sk (tx s) (p + 1)) - sk (tx s) (p + 1)) = vv := ⟨_, (Int.toNat_of_nonneg (by omega)).symm⟩
        obtain ⟨v, hv⟩ := hvv
        rw [hv] at hk g1 g2 ⊢
        rw [Int.toNat_natCast]
        generalize nE (tx s) (sk (tx s) (p + 1)) = q1 at *
        obtain ⟨b1, b2, b3, b4⟩ := at_st ho (q1 : Int)
        have hq2 := sk_le (tx s) hq1
        have hq2' := sk_ge (tx s) q1
        by_cases h93 : cA (tx s) (sk (tx s) q1) = 93
        · rw [pTk_ok h93, bd_ok]
          have he := t_exp_ok (d := d) (by omega) _ b2 b3 (by rw [b1]; exact hq1) (c := 93) (by decide) (by rw [b1]; exact h93)
          rw [b1, mu_mu] at he
          have hq3 : sk (tx s) q1 < (tx s).2 := cA_in (by omega)
          generalize hs2 : mu s 0 2 (((sk (tx s) q1 : Nat) : Int) + 1) = s2 at he
          have f2 : Fr (TF m c o) s s2 := by rw [← hs2]; exact (Fr.rf s).mu (by unfold TF; omega)
          have m2 : s2 0 16 = m' := by rw [← hs2, mu_i (by decide), hm]
          have hnt := t_newType (d := d) (by omega) s2 m2 (by omega) 2 v n ((min 25 (v * tsz t) : Nat) : Int)
          have hz2 : s2 5 n = ((min 25 (tsz t) : Nat) : Int) := by rw [← hs2, mu_c (by decide)]; exact r3
          have z1 := tt_vec (by omega) s0 _ s2 _ t0 (by omega) (n := n) (by omega) v (min 25 (tsz t)) (by omega) m' l3 (by rw [e0]; exact hk) he (by rw [← hs2, mu_i (by decide), hb]) hz2 (by omega) (by rw [min_mul (by omega)]; exact hnt)
          rw [z1]
          have f3 : Fr (TF m c o) s (nType s2 m' 2 v n ((min 25 (v * tsz t) : Nat) : Int)) := f2.tr (nType_fr.mono (fun _ _ => TF_sub hmm (Nat.le_refl _) (Nat.le_refl _)))
          obtain ⟨x3, o3, bb3, w3⟩ := fr_tf f3 ho
          have fa : Fr (TF m' c' o) s (nType s2 m' 2 v n ((min 25 (v * tsz t) : Nat) : Int)) := by
            refine Fr.tr ?_ nType_fr
            rw [← hs2]
            exact (Fr.rf s).mu (by unfold TF; omega)
          have R3 := RT_wide (a' := m) (b' := m' + 1) (c' := c) (e' := c') (Nat.le_refl _) (by omega) (Nat.le_refl _) (Nat.le_refl _) (RT_put (TF_AT fa (a := m) (b := m') (e := c) (f := c') (Nat.le_refl _) (Nat.le_refl _)) hR)
          obtain ⟨k1, k2, k3, k4, k5⟩ := nType_at (s := s2) (n := m') (a := 2) (b := v) (c := n) (e := ((min 25 (v * tsz t) : Nat) : Int))
          have q0 : ∀ {i : Nat}, i ≠ 16 → nType s2 m' 2 v n ((min 25 (v * tsz t) : Nat) : Int) 0 i = s2 0 i := fun h => nType_0 h
          generalize nType s2 m' 2 v n ((min 25 (v * tsz t) : Nat) : Int) = s3 at *
          have h := ih (sk (tx s) (sk (tx s) q1 + 1)) (sk (tx s) q1 + 1) m' (m' + 1) c' s3 (tV v t) (aI 91) (aI v) o3 (by rw [bb3, hb]) (by rw [q0 (by decide), ← hs2, mu_s]; omega) (by rw [x3]; omega) (by rw [x3]) (by rw [x3]; have := sk_ge (tx s) (sk (tx s) q1 + 1); omega) k5 (by rw [q0 (by decide), ← hs2, mu_i (by decide), hc]) (by rw [q0 (by decide), ← hs2, mu_i (by decide), hop]) (by omega) (by omega) (by omega) hcc (by omega)
            (by
              unfold tV RT
              rw [Int.toNat_natCast, k3]
              exact ⟨by omega, by omega, k1, k2, k4, by omega, R3⟩)
          rw [x3] at h
          exact OT_tr h x3 f3 (Nat.le_refl _)
        · rw [pTk_no h93, bd_er]
          have he := t_exp_no (d := d) (by omega) _ b2 (by rw [b4, hb]) b3 (by rw [b1]; exact hq1) (c := 93) (by decide) (by rw [b1]; exact h93)
          rw [b1, mu_mu] at he
          have z1 := tt_vecx s0 _ _ t0 (by omega) v n l3 (by rw [e0]; exact hk) he (by rw [mu_s]; decide)
          exact ⟨_, z1, mu_s, by rw [mu_i (by decide), mu_s], (((Fr.rf s).mu (by unfold TFX TF; omega)).mu (by unfold TFX TF; omega)).mu (by unfold TFX TF; omega)⟩
      · rw [pNu_no hN, bd_er]
        obtain ⟨v, a, v0, v1, ha, hk⟩ := t_num_no (d := d) (by omega) _ a2 (by rw [a4, hb]) (j := p + 1) (a3.trans (by omega)) (by rw [a1]; omega) (lo := 1) (hi := 4) (by rw [a1]; exact hN)
        rw [a1, mu_mu] at hk
        rw [a1] at ha
        generalize hs2 : mu (mu (mu s 0 2 (a : Int)) 0 3 ((sk (tx s) (p + 1) : Nat) : Int)) 0 5 1 = s2 at hk
        have f2 : Fr (TFX m c o) s s2 := by rw [← hs2]; exact (((Fr.rf s).mu (by unfold TFX TF; omega)).mu (by unfold TFX TF; omega)).mu (by unfold TFX TF; omega)
        have x2 : tx s2 = tx s := f2.tx TFX_len TFX_txt
        have o2 : okT s2 := f2.okT TFX_len TFX_txt ho
        have b2 : s2 0 5 = 1 := by rw [← hs2, mu_s]
        obtain ⟨a', ha', he⟩ := t_exp_bad (d := d) (by omega) s2 o2 b2 (j := a) (by rw [← hs2, mu_i (by decide), mu_i (by decide), mu_s]) (by rw [x2]; exact ha) (c := 93) (by decide)
        have z1 := tt_vecx s0 _ _ t0 (by omega) v n l3 (by rw [e0]; exact hk) he (by rw [mu_i (by decide), b2]; decide)
        exact ⟨_, z1, by rw [mu_i (by decide), b2], by rw [mu_i (by decide), ← hs2, mu_i (by decide), mu_s], f2.mu (by unfold TFX TF; omega)⟩
    · rw [if_neg h91]
      exact ⟨s, n, m', c', j, l2, l3, rfl, hR, hm, hc, hop, hat, hp, hj, hpj, hmj, hcj, ⟨hmm, hcc⟩, h91, Fr.rf s⟩
