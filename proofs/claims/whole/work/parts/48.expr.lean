theorem te_any {d dp D : Nat} (hd : 7 ≤ d) (hdp : dp < 6) (ih : IHE d (dp + 1) D) : IHE d dp (D + 1) := by
  intro j p n s rt l4 l5 l6 ho hb hat hj hp hnd hnj
  have hlen := tx_le ho
  rw [te_top (by omega) s ho hb hat hj hp]
  obtain ⟨x0, o0, t0, b0⟩ := at_st ho (p : Int)
  have hpj := sk_ge (tx s) j
  have hpl := sk_le (tx s) hj
  rw [hp] at hpj hpl
  have hsk : sk (tx s) p = p := by rw [← hp, sk_sk]
  have f0 : Fr (TE n dp) s (mu s 0 2 (p : Int)) := (Fr.rf s).mu (by unfold TE SE; omega)
  have n0 : mu s 0 2 (p : Int) 0 32 = n := by rw [mu_i (by decide), hnd]
  refine OUT_tr (p := p) ?_ x0 f0 (Nat.le_refl _)
  rw [← x0] at hsk hpl ⊢
  rw [hb] at b0
  generalize mu s 0 2 (p : Int) = s0 at *
  unfold pEx
  by_cases hN : isN (cA (tx s0) p)
  · rw [if_pos hN]
    have h := t_takeRef (d := d) (by omega) (n := n) (by omega) s0 o0 b0 t0 hpl hsk n0 hN
    split at h
    next e q hq =>
      rw [hq]
      obtain ⟨s', nm, r, rfl, h1, h2, h3, h4, h5, h6, hpa, h7, h8, h9, h10, h11, h12⟩ := h
      refine ⟨s', q, _, _, _, te_name hd hdp s0 s' rt _ _ n _ hN h1, ⟨h2, h3, h4, h5, h6, hpa⟩, h8, h7, h9, h10, h11, ?_, h12.mono (fun _ _ => SE_TE)⟩
      simp only [eRef, esz]
      omega
    next f hq =>
      rw [hq]
      obtain ⟨s', h1, h2, h3, h4⟩ := h
      exact ⟨s', (te_name hd hdp s0 s' rt _ _ n _ hN h1).trans (te_exit _ (by rw [h2]; decide) _ _ _ _ _ _), h2, h3, h4.mono (fun _ _ => SX_TX)⟩
  · rw [if_neg hN]
    by_cases hD : isD (cA (tx s0) p)
    · rw [if_pos hD]
      have hpl' : p < (tx s0).2 := cA_in (by have := hD.1; omega)
      have hnn := t_newNode (d := d) (by omega) s0 n0 (by omega) 1
      have f1 : Fr (TE n dp) s0 (nNode s0 n 1) := (nNode_fr (by omega)).mono (fun _ _ => SE_TE)
      obtain ⟨x1, o1, b1, w1⟩ := fr_te f1 o0
      have a1 : nNode s0 n 1 0 2 = p := by rw [nNode_0 (by decide), t0]
      have k1 := (nNode_k (s := s0) (n := n) (k := 1)).1
      have k3 := (nNode_k (s := s0) (n := n) (k := 1)).2.2
      rw [b0] at b1
      generalize nNode s0 n 1 = s1 at *
      by_cases hO : okNu (tx s0) 0 65535 p
      · rw [pNu_ok hO, bd_ok]
        have hk := t_num_ok (d := d) (by omega) s1 o1 a1 (by rw [x1]; exact hpl) (lo := 0) (hi := 65535) (by rw [x1, hsk]; exact hO)
        rw [x1, hsk] at hk
        have hq1 := nE_next hD
        have hq2 := nE_ge (tx s0) (p + 1)
        have hq3 := nE_le (tx s0) (j := p) hpl
        obtain ⟨-, -, -, g1, g2⟩ := hO
        generalize nV (tx s0) p (nE (tx s0) p - p) = v at *
        rw [hq1] at hk ⊢
        rw [hq1] at hq3
        generalize nE (tx s0) (p + 1) = q at *
        refine ⟨_, q, _, _, _, te_num hd hdp (by omega) s0 s1 _ rt _ _ v _ hN hD hnn hk (by rw [mu_i (by decide), k3]), ⟨?_, ?_, by omega, mu_s⟩, ?_, ?_, rfl, hq3, by omega, ?_, (((f1.mu (by unfold TE SE; omega)).mu (by unfold TE SE; omega)).mu (by unfold TE SE; omega))⟩
        · rw [mu_c (by decide), mu_c (by decide), mu_c (by decide), k1]
        · rw [mu_c (by decide), mu_s]
          omega
        · rw [mu_c (by decide), mu_c (by decide), mu_i (by decide), k3]
          rfl
        · rw [mu_c (by decide), mu_c (by decide), mu_s]
        · simp only [eNum, esz]
          omega
      · rw [pNu_no hO, bd_er]
        obtain ⟨v, a, v0, v1, ha, hk⟩ := t_num_no (d := d) (by omega) s1 o1 b1 a1 (by rw [x1]; exact hpl) (lo := 0) (hi := 65535) (by rw [x1, hsk]; exact hO)
        rw [x1, hsk] at hk
        have e1 := te_num hd hdp (n := n) (by omega) s0 s1 _ rt (cA (tx s0) p) (prt (tx s0) p (cA (tx s0) p)) v l6 hN hD hnn hk (by rw [mu_i (by decide), mu_i (by decide), mu_i (by decide), k3])
        refine ⟨_, e1.trans (te_exit _ (by rw [mu_c (by decide), mu_c (by decide), mu_s]; decide) _ _ _ _ _ _), by rw [mu_c (by decide), mu_c (by decide), mu_s], by rw [mu_c (by decide), mu_c (by decide), mu_i (by decide), mu_s], ?_⟩
        exact ((((((f1.mono (fun _ _ => TE_X)).mu (by unfold TX' SX SE; omega)).mu (by unfold TX' SX SE; omega)).mu (by unfold TX' SX SE; omega)).mu (by unfold TX' SX SE; omega)).mu (by unfold TX' SX SE; omega))
    · rw [if_neg hD]
      by_cases hz : prt (tx s0) p (cA (tx s0) p) = 0
      · obtain ⟨z1, z2, z3, z4⟩ := prt_0.mp hz
        rw [if_neg z2, if_neg z3, if_neg z4, if_neg z1, hz]
        exact ⟨_, te_none (by omega) hdp s0 b0 t0 rt _ _ hN hD, mu_s, by rw [mu_i (by decide), mu_s], ((Fr.rf s0).mu (by unfold TX' SX SE; omega)).mu (by unfold TX' SX SE; omega)⟩
      · have hcp : 0 ≤ cA (tx s0) p := by
          by_cases h : 0 ≤ cA (tx s0) p
          · exact h
          · exfalso
            apply hz
            rw [prt_0]
            unfold isTwo
            omega
        have hpl' : p < (tx s0).2 := cA_in hcp
        have hbg := te_begin hd hdp s0 o0 b0 t0 hpl' n0 (by omega) rt (cA (tx s0) p) _ l6 hN hD hz
        have key : ∀ (F : Unit → Nat → PR Jvm.Term), (∀ (s' : Mem), MID s' n dp (cA (tx s0) p) 0 (n + 1) (sk (tx s0) (p + 1) + 1) → s' 16 n = -1 → tx s' = tx s0 → OUT d dp n (sk (tx s') (sk (tx s0) (p + 1) + 1)) rt s' (Ze d 22 9 [aR 0, aI ((dp : Int) + 1), aI (-1), aI rt, aI (cA (tx s0) p), aI (prt (tx s0) p (cA (tx s0) p)), l6] [] s') (F () (sk (tx s0) (sk (tx s0) (p + 1) + 1)))) →
            OUT d dp n p rt s0 (Ze d 22 34 [aR 0, aI dp, aI (-1), aI rt, aI (cA (tx s0) p), aI (prt (tx s0) p (cA (tx s0) p)), l6] [] s0) (bd (pTk (tx s0) 40 (sk (tx s0) (p + 1))) F) := by
          intro F hF
          by_cases h40 : cA (tx s0) (sk (tx s0) (p + 1)) = 40
          · obtain ⟨s', e1, e2, e3, e4, e5⟩ := hbg.1 h40
            rw [pTk_ok h40, bd_ok, e1]
            refine OUT_tr (hF s' e2 e3 e4) e4 e5 ?_
            have q1 := sk_ge (tx s') (sk (tx s0) (p + 1) + 1)
            have q2 := sk_ge (tx s0) (p + 1)
            omega
          · obtain ⟨s', e1, e2, e3, e4⟩ := hbg.2 h40
            rw [pTk_no h40, bd_er]
            exact ⟨s', e1, e2, e3, e4⟩
        by_cases h33 : cA (tx s0) p = 33
        · rw [if_pos h33]
          refine key _ (fun s' M0 hB hx => ?_)
          rw [← hx]
          rw [h33, ← hx] at M0
          exact te_one hd hdp ih s' M0 hB rt _ _ _
        · rw [if_neg h33]
          by_cases h84 : cA (tx s0) p = 84
          · rw [if_pos h84]
            refine key _ (fun s' M0 hB hx => ?_)
            rw [← hx]
            rw [h84, ← hx] at M0
            have := te_T hd hdp ih s' M0 hB rt (aI (cA (tx s') p)) (aI (prt (tx s') p (cA (tx s') p))) l6
            simp only [pBits, bd_bd] at this
            exact this
          · rw [if_neg h84]
            by_cases h77 : cA (tx s0) p = 77
            · rw [if_pos h77]
              refine key _ (fun s' M0 hB hx => ?_)
              rw [← hx]
              rw [h77, ← hx] at M0
              exact te_mux hd hdp ih s' M0 rt _ _ _
            · rw [if_neg h77]
              have h2 : isTwo (tx s0) p := by
                by_cases h : isTwo (tx s0) p
                · exact h
                · exact (hz (prt_0.mpr ⟨h, h33, h84, h77⟩)).elim
              rw [if_pos h2]
              refine key _ (fun s' M0 hB hx => ?_)
              have hc : ((cA (tx s0) p).toNat : Int) = cA (tx s0) p := by omega
              rw [← hc] at M0
              have h2' := te_two hd hdp ih s' (cA (tx s0) p).toNat (by rw [hc]; exact h2.1) M0 rt (aI (cA (tx s0) p)) (aI (prt (tx s0) p (cA (tx s0) p))) l6
              rw [hx] at h2' ⊢
              exact h2'
theorem te_zero {d : Nat} (hd : 7 ≤ d) : IHE d 6 0 := by
  intro j p n s rt l4 l5 l6 ho hb hat hj hp hnd hnj
  have h := te_top (d := d) (dp := 6) (by omega) s ho hb hat hj hp rt l4 l5 l6
  have h2 := te_deep (d := d) (p := p) (by omega) (mu s 0 2 (p : Int)) (by rw [mu_i (by decide), hb]) mu_s rt (cA (tx s) p) (prt (tx s) p (cA (tx s) p)) l6
  exact ⟨_, h.trans h2, mu_s, by rw [mu_i (by decide), mu_s], (((Fr.rf s).mu (by unfold TX' SX SE; omega)).mu (by unfold TX' SX SE; omega)).mu (by unfold TX' SX SE; omega)⟩
theorem te_all {d : Nat} (hd : 7 ≤ d) : ∀ (D dp : Nat), dp + D = 6 → IHE d dp D := by
  intro D
  induction D with
  | zero =>
    intro dp h
    obtain rfl : dp = 6 := by omega
    exact te_zero hd
  | succ D ih =>
    intro dp h
    exact te_any hd (by omega) (ih (dp + 1) (by omega))
