theorem TW_FF {m c o t k j : Nat} {f : Int} (h : TW k j) : FFX m c o t f k j := by unfold TW at h; unfold FFX FF; omega
theorem TF_FF {m c o t k j : Nat} {f : Int} (h : TF m (c + 1) (o + 1) k j) : FF m c o t f k j := by unfold TF at h; unfold FF; omega
theorem TFX_FF {m c o t k j : Nat} {f : Int} (h : TFX m (c + 1) (o + 1) k j) : FFX m c o t f k j := by unfold TFX TF at h; unfold FFX FF; omega
theorem FF_FF {m c m2 c2 o t k j : Nat} {f : Int} (h1 : m ≤ m2) (h2 : c ≤ c2) (h : FF m2 c2 o t c k j) : FF m c o t f k j := by unfold FF at *; omega
theorem FFX_FF {m c m2 c2 o t k j : Nat} {f : Int} (h1 : m ≤ m2) (h2 : c ≤ c2) (h : FFX m2 c2 o t c k j) : FFX m c o t f k j := by unfold FFX FF at *; omega
theorem F3_FF {m c o t k j : Nat} {f : Int} (h : (k = 0 ∧ j = 2) ∨ (k = 7 ∧ j = c) ∨ (k = 5 ∧ j = t)) : FF m c o t f k j := by unfold FF; omega
theorem F2_FF {m c o t k j : Nat} {f : Int} (h : k = 0 ∧ (j = 2 ∨ j = 18)) : FF m c o t f k j := by unfold FF; omega
def OF (d o t m c p : Nat) (y : Nat) (f : Int) (k : Int) (l3 : AV) (s : Mem) (x : PR Jvm.Term) : Prop :=
  match x with
  | .ok (fs, q) => ∃ (s1 s' : Mem) (m' c' j' : Nat) (l2 l3' : AV), Zc d 14 [aR 0] s = rV s1 ∧ Ze d 15 7 [aR 0, aI (-1), aI k, l3] [] s1 = Ze d 15 7 [aR 0, aI t, l2, l3'] [] s' ∧ RT s' m m' c c' false fs c ∧ s' 0 16 = m' ∧ s' 0 17 = c' ∧ s' 0 18 = o ∧ s' 0 2 = j' ∧ sk (tx s) j' = q ∧ j' ≤ (tx s).2 ∧ p < j' ∧ m' ≤ j' ∧ 2 * c' ≤ j' ∧ (m ≤ m' ∧ c ≤ c') ∧ s' 5 t = ((min 25 (y + tsz fs) : Nat) : Int) ∧ 1 ≤ tsz fs ∧ (f < 0 → s' 4 t = c) ∧ (0 ≤ f → s' 8 f.toNat = c) ∧ Fr (FF m c o t f) s s'
  | .error e => ∃ (s1 s' : Mem), Zc d 14 [aR 0] s = rV s1 ∧ Ze d 15 7 [aR 0, aI (-1), aI k, l3] [] s1 = rI 0 s' ∧ s' 0 5 = 1 ∧ s' 0 3 = e ∧ Fr (FFX m c o t f) s s'
theorem t_fields {d D o t : Nat} (hd : 6 ≤ d) (ihT : TI d D) (hoD : o + 1 + D = 3) : ∀ (fu j p m c y : Nat) (s : Mem) (f : Int) (k : Int) (l3 : AV), okT s → s 0 5 = 0 → s 0 2 = j → j ≤ (tx s).2 → sk (tx s) j = p → (tx s).2 < p + fu → s 0 16 = m → s 0 17 = c → s 0 18 = ((o + 1 : Nat) : Int) → s 10 o = t → t < m → s 11 o = f → f < c → s 5 t = y → y ≤ 25 → m ≤ j → 2 * c ≤ j →
    OF d o t m c p y f k l3 s (pFs (tx s) (pTy (tx s) D) fu p) := by
  intro fu
  induction fu with
  | zero =>
    intro j p m c y s f k l3 ho hb hat hj hp hf
    have := sk_le (tx s) hj
    omega
  | succ fu ih =>
    intro j p m c y s f k l3 ho hb hat hj hp hfu hm hc hop hot htm hof hfc hy hy25 hmj hcj
    have hlen := tx_le ho
    have hpg := sk_ge (tx s) j
    have hpl := sk_le (tx s) hj
    rw [hp] at hpg hpl
    have hfd := t_field (d := d) (by omega) s ho hb hat hj hp hop (by omega) hot (by omega) hc (by omega) hof (by omega)
    rw [pFs_h]
    cases hq : pFh (tx s) p with
    | error e =>
      rw [hq] at hfd
      obtain ⟨s1, h1, h2, h3, h4⟩ := hfd
      rw [bd_er]
      exact ⟨s1, s1, h1, tt_exit _ (by rw [h2]; decide) _ _ _, h2, h3, h4.mono (fun _ _ => TW_FF)⟩
    | ok nbp =>
      obtain ⟨⟨n, b⟩, p3⟩ := nbp
      rw [hq] at hfd
      obtain ⟨j1, h1, h2, h3, h4, h5, h6⟩ := hfd
      dsimp only at h1 h5 h6
      rw [bd_ok]
      dsimp only
      have F1 : Fr (FF m c o t f) s (fld s c n b o t f j1) := fld_fr
      obtain ⟨x1, o1, b1, w1⟩ := fr_ff F1 ho
      obtain ⟨a1, a2, a3, a4, a5, a6, a7, a8, a9, a10⟩ := fld_at (s := s) (n := n) (b := b) (o := o) (t := t) (j := j1) hfc
      generalize fld s c n b o t f j1 = s1 at *
      have hT := ihT (o + 1) j1 p3 m (c + 1) s1 (aI k) l3 hoD o1 (by rw [b1, hb]) a1 (by rw [x1]; exact h3) (by rw [x1, h2]) (by rw [a9 _ (by decide) (by decide), hm]) a2 (by rw [a9 _ (by decide) (by decide), hop]) (by omega) (by omega)
      rw [x1] at hT
      have hsub : ∀ k j, TF m (c + 1) (o + 1) k j → FF m c o t f k j := fun _ _ => TF_FF
      cases hq2 : pTy (tx s) D p3 with
      | error e =>
        rw [hq2] at hT
        obtain ⟨s', e1, e2, e3, e4⟩ := hT
        rw [bd_er]
        exact ⟨s1, s', h1, e1, e2, e3, (F1.mono (fun _ _ => FF_X)).tr (e4.mono (fun _ _ => TFX_FF))⟩
      | ok tp =>
        obtain ⟨t1, p4⟩ := tp
        rw [hq2] at hT
        obtain ⟨s2, n1, m2, c2, j2, l2', l3', z2, R2, m2e, c2e, op2, at2, sk2, j2l, j2g, m2j, c2j, ⟨mm2, cc2⟩, h91, F2⟩ := hT
        rw [x1] at sk2 j2l h91
        rw [bd_ok]
        dsimp only
        obtain ⟨x2, o2, b2, w2⟩ := fr_tf F2 o1
        rw [x1] at x2
        rw [b1, hb] at b2
        obtain ⟨r1, r2, r3, r4⟩ := RT_size R2
        rw [Int.toNat_natCast] at r3
        have F12 : Fr (FF m c o t f) s s2 := F1.tr (F2.mono hsub)
        have hp4g := sk_ge (tx s) j2
        have hp4l := sk_le (tx s) j2l
        have hp3g := sk_ge (tx s) j1
        rw [sk2] at hp4g hp4l
        rw [h2] at hp3g
        have z3 := tt_there (n := n1) (by omega) s2 o2 b2 at2 (by rw [x2]; exact j2l) (by rw [x2, sk2]) l2' l3' (d := d)
        rw [x2] at z3
        have ot2 : s2 10 o = t := by rw [F2 _ _ (by unfold TF; omega), a10 _ _ (by decide) (by decide) (by decide) (by decide) (by decide) (by decide), hot]
        have of2 : s2 11 o = c := by rw [F2 _ _ (by unfold TF; omega), a3]
        have ts2 : s2 5 t = y := by rw [F2 _ _ (by unfold TF; omega), a10 _ _ (by decide) (by decide) (by decide) (by decide) (by decide) (by decide), hy]
        have z4 := tt_att (d := d) (t := t) (f := c) (n := n1) (mu s2 0 2 (p4 : Int)) (by rw [mu_i (by decide)]; exact op2) (by omega) (by rw [mu_c (by decide), ot2]) (by omega) (by rw [mu_c (by decide), of2]) (by omega) (by omega) y (min 25 (tsz t1)) (by rw [mu_c (by decide), ts2]) (by rw [mu_c (by decide), r3]) (by omega) (cA (tx s) p4) h91 l3'
        generalize hs4 : mu (mu (mu s2 0 2 (p4 : Int)) 7 c n1) 5 t ((min 25 (y + min 25 (tsz t1)) : Nat) : Int) = s4 at z4
        have F24 : Fr (fun k j => (k = 0 ∧ j = 2) ∨ (k = 7 ∧ j = c) ∨ (k = 5 ∧ j = t)) s2 s4 := by
          rw [← hs4]
          exact (((Fr.rf _).mu (by omega)).mu (by omega)).mu (by omega)
        have F14 : Fr (FF m c o t f) s s4 := F12.tr (F24.mono (fun _ _ => F3_FF))
        obtain ⟨x4, o4, b4, w4⟩ := fr_ff F14 ho
        have at4 : s4 0 2 = p4 := by rw [← hs4, mu_c (by decide), mu_c (by decide), mu_s]
        have ft4 : s4 7 c = n1 := by rw [← hs4, mu_c (by decide), mu_s]
        have ts4 : s4 5 t = ((min 25 (y + min 25 (tsz t1)) : Nat) : Int) := by rw [← hs4, mu_s]
        have op4 : s4 0 18 = ((o + 1 : Nat) : Int) := by rw [F24 _ _ (by omega), op2]
        have ot4 : s4 10 o = t := by rw [F24 _ _ (by omega), ot2]
        have of4 : s4 11 o = c := by rw [F24 _ _ (by omega), of2]
        have fn4 : s4 6 c = n := by rw [F24 _ _ (by omega), F2 _ _ (by unfold TF; omega), a4]
        have fb4 : s4 9 c = b := by rw [F24 _ _ (by omega), F2 _ _ (by unfold TF; omega), a5]
        have fx4 : s4 8 c = -1 := by rw [F24 _ _ (by omega), F2 _ _ (by unfold TF; omega), a6]
        have to4 : f < 0 → s4 4 t = c := fun h => by rw [F24 _ _ (by omega), F2 _ _ (by unfold TF; omega), a7 h]
        have fp4 : 0 ≤ f → s4 8 f.toNat = c := fun h => by rw [F24 _ _ (by omega), F2 _ _ (by unfold TF; omega), a8 h]
        have R4 : RT s4 m m2 (c + 1) c2 true t1 n1 := RT_put (fun k j h => F24 _ _ (by omega)) R2
        have mt4 : s4 0 16 = m2 := by rw [F24 _ _ (by omega), m2e]
        have fc4 : s4 0 17 = c2 := by rw [F24 _ _ (by omega), c2e]
        have zz : Ze d 15 7 [aR 0, aI (-1), aI k, l3] [] s1 = Ze d 15 333 [aR 0, aI (-1), aI (cA (tx s) p4), l3'] [] s4 := (z2.trans z3).trans z4
        clear z2 z3 z4 hs4
        by_cases h44 : cA (tx s) p4 = 44
        · rw [if_pos h44]
          rw [h44] at zz
          have hp4' : p4 < (tx s).2 := cA_in (by omega)
          have F5 : Fr (FF m c o t f) s (mu s4 0 2 ((p4 : Int) + 1)) := F14.mu (by unfold FF; omega)
          obtain ⟨x5, o5, b5, w5⟩ := fr_ff F5 ho
          have q0 : ∀ {i : Nat}, i ≠ 2 → mu s4 0 2 ((p4 : Int) + 1) 0 i = s4 0 i := fun h => mu_i h
          have qk : ∀ {k i : Nat}, k ≠ 0 → mu s4 0 2 ((p4 : Int) + 1) k i = s4 k i := fun h => mu_c h
          have at5 : mu s4 0 2 ((p4 : Int) + 1) 0 2 = ((p4 + 1 : Nat) : Int) := by rw [mu_s]; omega
          have hco := tt_comma (d := d) (p := p4) s4 · at4 (by omega) l3'
          generalize mu s4 0 2 ((p4 : Int) + 1) = s5 at *
          have hI := ih (p4 + 1) (sk (tx s) (p4 + 1)) m2 c2 (min 25 (y + min 25 (tsz t1))) s5 c 44 l3' o5 (by rw [b5, hb]) at5 (by rw [x5]; omega) (by rw [x5]) (by rw [x5]; have := sk_ge (tx s) (p4 + 1); omega) (by rw [q0 (by decide), mt4]) (by rw [q0 (by decide), fc4]) (by rw [q0 (by decide), op4]) (by rw [qk (by decide), ot4]) (by omega) (by rw [qk (by decide), of4]) (by omega) (by rw [qk (by decide), ts4]) (by omega) (by omega) (by omega)
          rw [x5] at hI
          cases hq3 : pFs (tx s) (pTy (tx s) D) fu (sk (tx s) (p4 + 1)) with
          | error e =>
            rw [hq3] at hI
            obtain ⟨s6, s', e0, e1, e2, e3, e4⟩ := hI
            rw [bd_er]
            exact ⟨s1, s', h1, (zz.trans (hco s6 e0)).trans e1, e2, e3, (F5.mono (fun _ _ => FF_X)).tr (e4.mono (fun _ _ => FFX_FF mm2 (by omega)))⟩
          | ok rp =>
            obtain ⟨r, p5⟩ := rp
            rw [hq3] at hI
            obtain ⟨s6, s', m', c', j', l2, l3'', e0, e1, e2, e3, e4, e5, e6, e7, e8, e9, e10, e11, ⟨e12, e13⟩, e14, e15, e16, e17, e18⟩ := hI
            rw [x5] at e7 e8
            rw [bd_ok]
            have hg := sk_ge (tx s) (p4 + 1)
            have hfx := e17 (by omega)
            rw [Int.toNat_natCast] at hfx
            refine ⟨s1, s', m', c', j', l2, l3'', h1, (zz.trans (hco s6 e0)).trans e1, ?_, e3, e4, e5, e6, e7, e8, by omega, e10, e11, by omega, ?_, ?_, fun h => ?_, fun h => ?_, F5.tr (e18.mono (fun _ _ => FF_FF mm2 (by omega)))⟩
            · unfold fCons RT
              rw [Int.toNat_natCast, hfx]
              refine ⟨by omega, by omega, ?_, ?_, ⟨h5, h6⟩, ?_, RT_wide (by omega) (by omega) (by omega) (by omega) e2⟩
              · rw [e18 _ _ (by unfold FF; omega), qk (by decide), fn4]
              · rw [e18 _ _ (by unfold FF; omega), qk (by decide), fb4]
              · rw [e18 _ _ (by unfold FF; omega), qk (by decide), ft4]
                exact RT_wide (by omega) (by omega) (by omega) (by omega) (RT_put (fun k j h => by rw [e18 _ _ (by unfold FF; omega), qk (by omega)]) R4)
            · rw [e14]
              simp only [fCons, tsz]
              omega
            · simp only [fCons, tsz]
              omega
            · rw [e18 _ _ (by unfold FF; omega), qk (by decide), to4 h]
            · rw [e18 _ _ (by unfold FF; omega), qk (by decide), fp4 h]
        · rw [if_neg h44]
          by_cases h125 : cA (tx s) p4 = 125
          · rw [if_pos h125]
            rw [h125] at zz
            have hp4' : p4 < (tx s).2 := cA_in (by omega)
            have z5 := tt_close (d := d) s4 at4 (by omega) op4 (by omega) l3'
            rw [ot4] at z5
            have F5 : Fr (fun k j => k = 0 ∧ (j = 2 ∨ j = 18)) s4 (mu (mu s4 0 2 ((p4 : Int) + 1)) 0 18 o) := ((Fr.rf s4).mu (by omega)).mu (by omega)
            have at5 : mu (mu s4 0 2 ((p4 : Int) + 1)) 0 18 (o : Int) 0 2 = ((p4 + 1 : Nat) : Int) := by rw [mu_i (by decide), mu_s]; omega
            have op5 : mu (mu s4 0 2 ((p4 : Int) + 1)) 0 18 (o : Int) 0 18 = o := mu_s
            generalize mu (mu s4 0 2 ((p4 : Int) + 1)) 0 18 (o : Int) = s5 at *
            refine ⟨s1, s5, m2, c2, p4 + 1, _, _, h1, zz.trans z5, ?_, by rw [F5 _ _ (by omega), mt4], by rw [F5 _ _ (by omega), fc4], op5, at5, rfl, by omega, by omega, by omega, by omega, by omega, ?_, ?_, fun h => ?_, fun h => ?_, F14.tr (F5.mono (fun _ _ => F2_FF))⟩
            · unfold fCons RT
              rw [Int.toNat_natCast]
              refine ⟨by omega, by omega, ?_, ?_, ⟨h5, h6⟩, ?_, ?_⟩
              · rw [F5 _ _ (by omega), fn4]
              · rw [F5 _ _ (by omega), fb4]
              · rw [F5 _ _ (by omega), ft4]
                exact RT_wide (by omega) (by omega) (by omega) (by omega) (RT_put (fun k j h => F5 _ _ (by omega)) R4)
              · rw [F5 _ _ (by omega), fx4]
                unfold tNil RT
                rfl
            · rw [F5 _ _ (by omega), ts4]
              simp only [fCons, tsz, tNil]
              omega
            · simp only [fCons, tsz, tNil]
              omega
            · rw [F5 _ _ (by omega), to4 h]
            · rw [F5 _ _ (by omega), fp4 h]
          · rw [if_neg h125]
            have z5 := tt_junk (d := d) (by omega) s4 (by rw [b4, hb]) at4 _ h44 h125 l3'
            exact ⟨s1, _, h1, zz.trans z5, mu_s, by rw [mu_i (by decide), mu_s], ((F14.mono (fun _ _ => FF_X)).mu (by unfold FFX; omega)).mu (by unfold FFX; omega)⟩
