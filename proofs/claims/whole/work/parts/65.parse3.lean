/-- a ? -/
theorem pa_choice {d f j p K N M C : Nat} {st : List Nat} {s : Mem} {l4 : AV} (hd : 9 ≤ d) (hPA : PA d f) (hP : PS s st j p K N M C) (hfu : (tx s).2 < p + (f + 1)) (h63 : cA (tx s) p = 63) (h3 : st.length < 3) :
    OP K N M C s (Ze d 26 49 [aR 0, aI st.length, aI 63, aI p, l4] [] (mu s 0 2 p)) (bd (pEx (tx s) 6 (sk (tx s) (p + 1))) fun e p1 =>
      bd (pTk (tx s) 123 p1) fun _ p2 => bi (pIts (tx s) f (1 :: st) p2) fun r => .ok ((1, p, 0, 0, tNil, e) :: r)) := by
  obtain ⟨ho, hb, hat, hj, hp, hK, hN, hM, hC, hNj, hMj, hCj, hKj, hl3, hst, hB⟩ := hP
  have hlen := tx_le ho
  have hg := sk_ge (tx s) j
  rw [hp] at hg
  have hpT : p < (tx s).2 := cA_in (by omega)
  generalize hs1 : mu s 0 2 ((p : Int) + 1) = s1
  have f1 : Fr (PF K N M C) s s1 := by rw [← hs1]; exact (Fr.rf s).mu (Or.inl ⟨rfl, Or.inl rfl⟩)
  have st1 : s1 0 40 = K := by rw [← hs1, mu_i (by decide), hK]
  have hk := t_newStep (d := d) (by omega) s1 st1 (by omega) 1 p
  obtain ⟨a1, a2, a3⟩ := nStep_at (s := s1) (K := K) (o := 1) (p := p)
  have F2 : Fr (PF K N M C) s (nStep s1 K 1 p) := f1.tr (nStep_fr.mono (fun _ _ => FH_PF))
  have q0 : ∀ {i : Nat}, i ≠ 40 → i ≠ 2 → nStep s1 K 1 p 0 i = s 0 i := fun h1 h2 => by rw [nStep_0 h1, ← hs1, mu_i h2]
  have at2 : nStep s1 K 1 p 0 2 = ((p + 1 : Nat) : Int) := by rw [nStep_0 (by decide), ← hs1, mu_s]; rfl
  have bl2 : ∀ i, nStep s1 K 1 p 31 i = s 31 i := fun i => by rw [nStep_fr (K := K) _ _ FH_blk, ← hs1, mu_c (by decide)]
  have e0 : mu (mu s 0 2 (p : Int)) 0 2 ((p : Int) + 1) = s1 := by rw [mu_mu, hs1]
  generalize nStep s1 K 1 p = s2 at *
  obtain ⟨x2, o2, b2, w2⟩ := fr_pf F2 ho
  rw [hb] at b2
  have hE := t_takeExpression (d := d) (p := sk (tx s) (p + 1)) (by omega) s2 o2 b2 at2 (by rw [x2]; omega) (by rw [x2]) (n := N) (by rw [q0 (by decide) (by decide), hN]) (by omega)
  rw [x2] at hE
  have hg1 := sk_ge (tx s) (p + 1)
  cases hx : pEx (tx s) 6 (sk (tx s) (p + 1)) with
  | error e =>
    rw [hx] at hE
    rw [bd_er]
    obtain ⟨s3, e1, e2, e3, e4⟩ := hE
    rw [pa_when (d := d) (K := K) _ s2 s3 h3 (by omega) mu_s (by omega) (by rw [e0]; exact hk) e1 l4]
    have b4 : mu s3 29 K 0 0 5 = 1 := by rw [mu_c (by decide), e2]
    rw [pa_when2 (d := d) (mu s3 29 K 0) _ h3 (Or.inr ⟨by rw [b4]; decide, rfl⟩)]
    have b5 : mu (mu s3 29 K 0) 31 st.length 1 0 5 = 1 := by rw [mu_c (by decide), b4]
    exact ⟨_, pa_exit _ (by rw [b5]; decide) _ _ _ _, b5, by rw [mu_c (by decide), mu_c (by decide), e3], (((F2.mono (fun _ _ => PF_X)).tr (e4.mono (fun _ _ => TX_PF))).mu (Or.inl (Or.inr (Or.inr (Or.inr (Or.inr (Or.inr (Or.inr (Or.inr ⟨by decide, by decide, Nat.le_refl _⟩))))))))).mu (Or.inl PF_blk)⟩
  | ok ep =>
    obtain ⟨e, p3⟩ := ep
    rw [hx] at hE
    rw [bd_ok]
    obtain ⟨s3, j2, e1, e2, e3, e4, e5, e6, e7, e8, F3⟩ := hE
    obtain ⟨x3, o3, b3, w3⟩ := fr_te F3 o2
    rw [x2] at x3
    rw [b2] at b3
    rw [pa_when (d := d) (K := K) _ s2 s3 h3 (by omega) mu_s (by omega) (by rw [e0]; exact hk) e1 l4]
    generalize hs4 : mu s3 29 K (N : Int) = s4
    have G4 : ∀ k j, k ≠ 29 → s4 k j = s3 k j := fun k j h => by rw [← hs4, mu_c h]
    have r4 : s4 29 K = N := by rw [← hs4, mu_s]
    have x4 : tx s4 = tx s := by rw [← hs4]; exact (tx_mc (k := 29) (by decide)).trans x3
    have o4 : okT s4 := by rw [← hs4]; exact okT_mc (k := 29) (by decide) o3
    have P4 : Fr (PF K N M C) s s4 := by
      rw [← hs4]
      exact (F2.tr (F3.mono (fun _ _ => TE_PF))).mu (Or.inr (Or.inr (Or.inr (Or.inr (Or.inr (Or.inr (Or.inr ⟨by decide, by decide, Nat.le_refl _⟩)))))))
    have R4 : RE s4 e N := RE_put e2 ⟨fun k j hk _ _ => G4 _ _ (by omega), fun j _ _ => G4 _ _ (by decide)⟩
    have g4 := sk_ge (tx s) j2
    have l4' := sk_le (tx s) e6
    rw [e5] at g4 l4'
    have at4 : s4 0 2 = j2 := by rw [G4 _ _ (by decide), e4]
    have b4 : s4 0 5 = 0 := by rw [G4 _ _ (by decide), b3]
    have bl4 : ∀ i, s4 31 i = s 31 i := fun i => by rw [G4 _ _ (by decide), F3 _ _ (TE_no (Or.inl (by decide))), bl2]
    by_cases hX : cA (tx s) p3 = 123
    · rw [pTk_ok hX, bd_ok]
      have he := t_exp_ok (d := d) (by omega) s4 o4 at4 (by rw [x4]; exact e6) (c := 123) (by decide) (by rw [x4, e5]; exact hX)
      rw [x4, e5] at he
      have hp3 : p3 < (tx s).2 := cA_in (by omega)
      rw [pa_when2 (d := d) s4 _ h3 (Or.inl ⟨b4, he⟩)]
      generalize hs5 : mu s4 0 2 ((p3 : Int) + 1) = s5
      have G5 : ∀ {i : Nat}, i ≠ 2 → s5 0 i = s4 0 i := fun h => by rw [← hs5, mu_i h]
      have K5 : ∀ {k i : Nat}, k ≠ 0 → s5 k i = s4 k i := fun h => by rw [← hs5, mu_c h]
      have at5 : s5 0 2 = ((p3 + 1 : Nat) : Int) := by rw [← hs5, mu_s]; rfl
      have P6 : Fr (PF K N M C) s (mu s5 31 st.length 1) := by
        rw [← hs5]
        exact (P4.mu (Or.inl ⟨rfl, Or.inl rfl⟩)).mu PF_blk
      obtain ⟨x6, o6, b6, w6⟩ := fr_pf P6 ho
      have R5 : RE s5 e N := RE_put R4 ⟨fun k j hk _ _ => K5 (by omega), fun j _ _ => K5 (by decide)⟩
      refine OP_bi (N' := N + esz e) (M' := M) (C' := C) x6 rfl (Nat.le_refl _) (Nat.le_refl _) P6 ⟨?_, ?_, Or.inr (Or.inl ⟨rfl, N, ?_, Nat.le_refl _, ?_, Nat.le_refl _⟩)⟩ ?_
      · rw [mu_c (by decide), K5 (by decide), G4 _ _ (by decide), F3 _ _ (TE_no (Or.inl (by decide))), a1]; rfl
      · rw [mu_c (by decide), K5 (by decide), G4 _ _ (by decide), F3 _ _ (TE_no (Or.inl (by decide))), a2]
      · rw [mu_c (by decide), K5 (by decide), r4]
      · exact RE_put R5 ⟨fun k j hk _ _ => mu_c (by omega), fun j _ _ => mu_c (by decide)⟩
      · have hIH := hPA (1 :: st) (p3 + 1) (sk (tx s) (p3 + 1)) (K + 1) (N + esz e) M C (mu s5 31 st.length 1) (aI 63) (aI p) (aI K) ⟨o6, by rw [b6, hb], by rw [mu_c (by decide)]; exact at5, by rw [x6]; omega, by rw [x6], ?_, ?_, ?_, ?_, by omega, by omega, by omega, by rw [List.length_cons]; omega, by rw [List.length_cons]; omega, fun x hx => ?_, mu_s, ?_⟩ (by rw [x6]; have := sk_ge (tx s) (p3 + 1); omega)
        · rw [x6] at hIH
          exact hIH
        · rw [mu_c (by decide), G5 (by decide), G4 _ _ (by decide), F3 _ _ (TE_no (Or.inr (Or.inr (by decide)))), a3]
        · rw [mu_c (by decide), G5 (by decide), G4 _ _ (by decide), e3]
        · rw [mu_c (by decide), G5 (by decide), G4 _ _ (by decide), F3 _ _ (TE_no (Or.inr (Or.inr (by decide)))), q0 (by decide) (by decide), hM]
        · rw [mu_c (by decide), G5 (by decide), G4 _ _ (by decide), F3 _ _ (TE_no (Or.inr (Or.inr (by decide)))), q0 (by decide) (by decide), hC]
        · rcases List.mem_cons.mp hx with h | h
          · exact Or.inl h
          · exact hst x h
        · exact BS_put (fun j hj => by rw [mu_i (by omega), K5 (by decide), bl4]) hB
    · rw [pTk_no hX, bd_er]
      have he := t_exp_no (d := d) (by omega) s4 o4 b4 at4 (by rw [x4]; exact e6) (c := 123) (by decide) (by rw [x4, e5]; exact hX)
      rw [x4, e5] at he
      rw [pa_when2 (d := d) s4 _ h3 (Or.inl ⟨b4, he⟩)]
      have b5 : mu (mu (mu (mu s4 0 2 (p3 : Int)) 0 3 (p3 : Int)) 0 5 1) 31 st.length 1 0 5 = 1 := by rw [mu_c (by decide), mu_s]
      exact ⟨_, pa_exit _ (by rw [b5]; decide) _ _ _ _, b5, by rw [mu_c (by decide), mu_i (by decide), mu_s], ((((P4.mono (fun _ _ => PF_X)).mu (Or.inl (Or.inl ⟨rfl, Or.inl rfl⟩))).mu (Or.inr (by decide))).mu (Or.inr (by decide))).mu (Or.inl PF_blk)⟩
theorem pa_all {d : Nat} (hd : 9 ≤ d) : ∀ f, PA d f := by
  intro f
  induction f with
  | zero =>
    intro st j p K N M C s l2 l3 l4 hP hf
    have := sk_le (tx s) hP.2.2.2.1
    rw [hP.2.2.2.2.1] at this
    omega
  | succ f ih =>
    intro st j p K N M C s l2 l3 l4 hP hfu
    have hP' := hP
    obtain ⟨ho, hb, hat, hj, hp, hK, hN, hM, hC, hNj, hMj, hCj, hKj, hl3, hst, hB⟩ := hP
    have hlen := tx_le ho
    have hg := sk_ge (tx s) j
    have hl := sk_le (tx s) hj
    have hss := sk_sk (tx s) j
    rw [hp] at hg hl hss
    rw [pa_top (d := d) (by omega) s ho hb hat hj hp st.length l2 l3 l4, pIts_s]
    have F0 : Fr (PF K N M C) s (mu s 0 2 (p : Int)) := (Fr.rf s).mu (Or.inl ⟨rfl, Or.inl rfl⟩)
    by_cases h1 : st ≠ [] ∧ cA (tx s) p = 125
    · rw [if_pos h1]
      cases st with
      | nil => exact absurd rfl h1.1
      | cons b st =>
        have h := pa_close (l4 := l4) hd ih hP' hfu h1.2
        rw [h1.2]
        have e1 : ((b :: st).head? = some 1 ∧ cA (tx s) (sk (tx s) (p + 1)) = 58) ↔ (b = 1 ∧ cA (tx s) (sk (tx s) (p + 1)) = 58) := by simp
        by_cases h2 : b = 1 ∧ cA (tx s) (sk (tx s) (p + 1)) = 58
        · rw [if_pos h2] at h
          rw [if_pos (e1.mpr h2)]
          exact h
        · rw [if_neg h2] at h
          rw [if_neg (fun z => h2 (e1.mp z))]
          exact h
    · rw [if_neg h1]
      by_cases h2 : st = [] ∧ cA (tx s) p < 0
      · rw [if_pos h2]
        obtain ⟨rfl, h2⟩ := h2
        refine ⟨mu s 0 2 (p : Int), N, M, C, pa_end (p := p) _ _ h2 l4, rfl, by rw [mu_i (by decide)]; exact hK, by rw [mu_i (by decide)]; exact hN, ⟨Nat.le_refl _, Nat.le_refl _, by omega, by omega, by omega, ?_⟩, F0⟩
        have : ([] : List It).length = 0 := rfl
        have : ([] : List Nat).length = 0 := rfl
        omega
      · rw [if_neg h2]
        by_cases h3 : cA (tx s) p = 63 ∧ st.length < 3
        · rw [if_pos h3]
          have h := pa_choice (l4 := l4) hd ih hP' hfu h3.1 h3.2
          rw [h3.1]
          exact h
        · rw [if_neg h3]
          have o0 : okT (mu s 0 2 (p : Int)) := okT_mu (by decide) ho
          have x0 : tx (mu s 0 2 (p : Int)) = tx s := tx_mu (by decide)
          have B0 : BS (mu s 0 2 (p : Int)) st := BS_put (fun j _ => mu_c (by decide)) hB
          by_cases h4 : isN (cA (tx s) p)
          · rw [if_pos h4]
            have hI := t_connect (d := d) hd (mu s 0 2 (p : Int)) o0 (by rw [mu_i (by decide), hb]) mu_s (by rw [x0]; exact hss) (by rw [x0]; exact h4) (N := N) (M := M) (C := C) (K := K) (by rw [mu_i (by decide), hN]) (by rw [mu_i (by decide), hM]) (by rw [mu_i (by decide), hC]) (by rw [mu_i (by decide), hK]) (by omega) (by omega) (by omega) (by omega)
            rw [x0] at hI
            exact pa_next hd ih hfu ho hb x0 F0 (by omega) hl3 hst B0 hI (fun s1 h => pa_conn (by omega) _ s1 h4 h l4)
          · rw [if_neg h4]
            by_cases h5 : st = [] ∧ (cA (tx s) p = 73 ∨ cA (tx s) p = 79 ∨ cA (tx s) p = 87 ∨ cA (tx s) p = 82 ∨ cA (tx s) p = 78)
            · rw [if_pos h5]
              have hI := t_item (d := d) (p := p) hd (mu s 0 2 (p : Int)) o0 (by rw [mu_i (by decide), hb]) mu_s (by rw [x0]) h5.2 (N := N) (M := M) (C := C) (K := K) (by rw [mu_i (by decide), hN]) (by rw [mu_i (by decide), hM]) (by rw [mu_i (by decide), hC]) (by rw [mu_i (by decide), hK]) (by omega) (by omega) (by omega) (by omega)
              rw [x0] at hI
              obtain ⟨rfl, h5⟩ := h5
              exact pa_next (st := []) hd ih hfu ho hb x0 F0 (by omega) hl3 hst B0 hI (fun s1 h => pa_item (by omega) _ s1 h5 h l4)
            · rw [if_neg h5]
              have hw := t_wrong (d := d) (by omega) (mu s 0 2 (p : Int)) p
              rw [wr_0 (by rw [mu_i (by decide), hb])] at hw
              have l0 : st.length = 0 → st = [] := List.length_eq_zero_iff.mp
              have z := pa_junk (d := d) (e := st.length) (c := cA (tx s) p) (by omega) _ _ mu_s (fun z => h1 ⟨fun w => by rw [w] at z; exact absurd z.1 (by decide), z.2⟩) (fun z => h2 ⟨l0 z.1, z.2⟩) h3 h4 (fun z => h5 ⟨l0 z.1, z.2⟩) hw l4
              exact ⟨_, z.trans (pa_exit _ (by rw [mu_s]; decide) _ _ _ _), mu_s, by rw [mu_i (by decide), mu_s], ((F0.mono (fun _ _ => PF_X)).mu (Or.inr (by decide))).mu (Or.inr (by decide))⟩
theorem t_parse {d : Nat} (hd : 10 ≤ d) (s : Mem) (ho : okT s) :
    match pAll (tx s) with
    | .ok its => ∃ (s' : Mem) (N M C : Nat), Zc d 26 [aR 0] s = rV s' ∧ s' 0 5 = 0 ∧ s' 0 3 = s 0 3 ∧ RIs s' N M C 0 0 its ∧ s' 0 40 = its.length ∧ s' 0 32 = N ∧ (N ≤ 200 ∧ M ≤ 200 ∧ 2 * C ≤ 200 ∧ 2 * its.length ≤ 200) ∧ Fr (PFX 0 0 0 0) s s'
    | .error f => ∃ s', Zc d 26 [aR 0] s = rV s' ∧ s' 0 5 = 1 ∧ s' 0 3 = f ∧ Fr (PFX 0 0 0 0) s s' := by
  obtain ⟨d, rfl⟩ : ∃ e, d = e + 1 := ⟨d - 1, by omega⟩
  have hlen := tx_le ho
  generalize hs1 : mu (mu (mu (mu (mu (mu s 0 2 0) 0 5 0) 0 16 0) 0 17 0) 0 32 0) 0 40 0 = s1
  have hin : Zc (d + 1) 26 [aR 0] s = Ze d 26 32 [aR 0, aI 0, aU, aU, aU] [] s1 := by
    simp (disch := first | exact obC_0 | omega | (simp only [aN1_29, aN1_31]; omega) | (simp only [List.length_cons, List.length_nil]; omega)) only [en26, x26_0, x26_1, x26_2, x26_3, x26_4, x26_7, x26_8, x26_9, x26_12, x26_13, x26_14, x26_17, x26_18, x26_19, x26_22, x26_23, x26_24, x26_27, x26_28, x26_29, x26_33, x26_36, x26_39, x26_40, x26_43, x26_44, x26_45, x26_48, x26_49, x26_50, x26_53, x26_54, x26_56, x26_59, x26_60, x26_60i, x26_61, x26_64, x26_65, x26_66, x26_69, x26_70, x26_73, x26_74, x26_75, x26_76, x26_77, x26_78, x26_81, x26_82, x26_85, x26_87, x26_90, x26_91, x26_94, x26_95, x26_97, x26_99, x26_102, x26_103, x26_103i, x26_104, x26_107, x26_108, x26_109, x26_112, x26_113, x26_115, x26_118, x26_119, x26_120, x26_121, x26_124, x26_125, x26_126, x26_129, x26_130, x26_131, x26_132, x26_133, x26_134, x26_137, x26_138, x26_139, x26_140, x26_143, x26_144, x26_147, x26_150, x26_151, x26_154, x26_155, x26_158, x26_159, x26_160, x26_162, x26_165, x26_166, x26_167, x26_170, x26_171, x26_171i, x26_172, x26_175, x26_176, x26_177, x26_180, x26_181, x26_182, x26_183, x26_186, x26_188, x26_189, x26_192, x26_194, x26_195, x26_198, x26_199, x26_200, x26_203, x26_206, x26_207, x26_209, x26_212, x26_213, x26_216, x26_217, x26_218, x26_219, x26_222, x26_225, x26_226, x26_229, x26_232, x26_233, x26_234, x26_237, x26_240, x26_241, x26_244, x26_245, x26_247, x26_250, x26_251, x26_253, x26_256, x26_257, x26_259, x26_262, x26_263, x26_265, x26_268, x26_269, x26_271, x26_274, x26_275, x26_276, x26_277, x26_280, x26_283, x26_284, x26_285, x26_288, x26_291, x26_294, fcn_0_37, fcn_0_39, if_true, if_false, eq_self, Int.reduceEq, Int.reduceLT, Int.reduceLE, Int.reduceAdd, Int.reduceSub, Int.reduceMul, Int.reduceToNat, Nat.reduceAdd, Nat.reduceMul, Nat.reduceEqDiff, Int.toNat_natCast, wrap_id, hs1]
  have F1 : Fr (PFX 0 0 0 0) s s1 := by
    rw [← hs1]
    exact ((((((Fr.rf s).mu (Or.inl (Or.inl (by decide)))).mu (Or.inr (by decide))).mu (Or.inl (Or.inl (by decide)))).mu (Or.inl (Or.inl (by decide)))).mu (Or.inl (Or.inl (by decide)))).mu (Or.inl (Or.inl (by decide)))
  have x1 : tx s1 = tx s := F1.tx PFX_len PFX_txt
  have o1 : okT s1 := F1.okT PFX_len PFX_txt ho
  have b1 : s1 0 5 = 0 := by rw [← hs1, mu_i (by decide), mu_i (by decide), mu_i (by decide), mu_i (by decide), mu_s]
  have at1 : s1 0 2 = ((0 : Nat) : Int) := by rw [← hs1, mu_i (by decide), mu_i (by decide), mu_i (by decide), mu_i (by decide), mu_i (by decide), mu_s]; rfl
  have w1 : s1 0 3 = s 0 3 := by rw [← hs1, mu_i (by decide), mu_i (by decide), mu_i (by decide), mu_i (by decide), mu_i (by decide), mu_i (by decide)]
  have t1 : s1 0 16 = ((0 : Nat) : Int) := by rw [← hs1, mu_i (by decide), mu_i (by decide), mu_i (by decide), mu_s]; rfl
  have f1 : s1 0 17 = ((0 : Nat) : Int) := by rw [← hs1, mu_i (by decide), mu_i (by decide), mu_s]; rfl
  have n1 : s1 0 32 = ((0 : Nat) : Int) := by rw [← hs1, mu_i (by decide), mu_s]; rfl
  have k1 : s1 0 40 = ((0 : Nat) : Int) := by rw [← hs1, mu_s]; rfl
  have h := pa_all (d := d) (by omega) ((tx s).2 + 1) [] 0 (sk (tx s) 0) 0 0 0 0 s1 aU aU aU ⟨o1, b1, at1, Nat.zero_le _, by rw [x1], k1, n1, t1, f1, Nat.le_refl _, Nat.le_refl _, Nat.le_refl _, Nat.le_refl _, Nat.zero_le _, fun b hb => (nomatch hb), trivial⟩ (by rw [x1]; omega)
  rw [x1] at h
  rw [hin]
  have hc : aI ((([] : List Nat).length : Nat) : Int) = aI 0 := rfl
  rw [hc] at h
  have hp : pIts (tx s) ((tx s).2 + 1) [] (sk (tx s) 0) = pAll (tx s) := rfl
  rw [hp] at h
  generalize Ze d 26 32 [aR 0, aI 0, aU, aU, aU] [] s1 = Z at *
  cases hq : pAll (tx s) with
  | error e =>
    rw [hq] at h
    obtain ⟨s', h1, h2, h3, h4⟩ := h
    exact ⟨s', h1, h2, h3, F1.tr h4⟩
  | ok its =>
    rw [hq] at h
    obtain ⟨s', N, M, C, h1, h2, h3, h4, ⟨h5, h6, h7, h8, h9, h10⟩, h11⟩ := h
    rw [x1] at h7 h8 h9 h10
    rw [Nat.zero_add] at h3 h10
    exact ⟨s', N, M, C, h1, by rw [h11 _ _ PF_bad, b1], by rw [h11 _ _ PF_whe, w1], h2, h3, h4, ⟨by omega, by omega, by omega, by omega⟩, F1.tr (h11.mono (fun _ _ => PF_X))⟩
