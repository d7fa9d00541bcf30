theorem t_fields {d D o t : Nat} (hd : 6 ≤ d) (ihT : TI d D) (hoD : o + 1 + D = 3) : ∀ (fu j p m c y : Nat) (s : Mem) (f : Int) (k : Int) (l3 : AV), okT s → s 0 5 = 0 → s 0 2 = j → j ≤ (tx s).2 → sk (tx s) j = p → (tx s).2 < p + fu → s 0 16 = m → s 0 17 = c → s 0 18 = ((o + 1 : Nat) : Int) → s 10 o = t → t < m → s 11 o = f → f < c → s 5 t = y → y ≤ 25 → m ≤ j → 2 * c ≤ j →
    OF d o t m c p y f k l3 s (pFs (tx s) (pTy (tx s) D) fu p) := by
  intro fu
  induction fu with
  | zero =>
    intro j p m c y s f k l3 ho hb hat hj hp hf
    have := sk_le (tx s) hj
    omega
  | succ fu ih =>
    intro j p m c y s f k l3 ho hb hat hj hp hfu hm hc hop hot htm hof hfc hy hy25 hmj hcj
    have hlen := tx_le ho
    have hpg := sk_ge (tx s) j
    have hpl := sk_le (tx s) hj
    rw [hp] at hpg hpl
    have hfd := t_field (d := d) (by omega) s ho hb hat hj hp hop (by omega) hot (by omega) hc (by omega) hof (by omega)
    rw [pFs_h]
    cases hq : pFh (tx s) p with
    | error e =>
      rw [hq] at hfd
      obtain ⟨s1, h1, h2, h3, h4⟩ := hfd
      rw [bd_er]
      exact ⟨s1, s1, h1, tt_exit _ (by rw [h2]; decide) _ _ _, h2, h3, h4.mono (fun _ _ => TW_FF)⟩
    | ok nbp =>
      obtain ⟨⟨n, b⟩, p3⟩ := nbp
      rw [hq] at hfd
      obtain ⟨j1, h1, h2, h3, h4, h5, h6⟩ := hfd
      dsimp only at h1 h5 h6
      rw [bd_ok]
      dsimp only
      have F1 : Fr (FF m c o t f) s (fld s c n b o t f j1) := fld_fr
      obtain ⟨a1, a2, a3, a4, a5, a6, a7, a8, a9, a10⟩ := fld_at (s := s) (n := n) (b := b) (o := o) (t := t) (j := j1) hfc
      have a11 : fld s c n b o t f j1 10 o = t := by rw [a10 _ _ (by decide) (by decide) (by decide) (by decide) (by decide) (by decide), hot]
      have a12 : fld s c n b o t f j1 5 t = y := by rw [a10 _ _ (by decide) (by decide) (by decide) (by decide) (by decide) (by decide), hy]
      generalize fld s c n b o t f j1 = s1 at *
      clear a10
      have hS := t_fs1 hd ihT hoD (p := p) s s1 f k l3 ho hb hm hop hot htm hfc hy hy25 (by omega) (by omega) h1 h2 h3 h4 F1 a1 a2 a3 a4 a5 a6 a7 a8 a9 a11 a12
      clear a1 a2 a3 a4 a5 a6 a7 a8 a9 a11 a12 F1 h1 h2 hq
      cases hq2 : pTy (tx s) D p3 with
      | error e =>
        rw [hq2] at hS
        rw [bd_er]
        exact hS
      | ok tp =>
        obtain ⟨t1, p4⟩ := tp
        rw [hq2] at hS
        rw [bd_ok]
        by_cases h44 : cA (tx s) p4 = 44
        · rw [if_pos h44]
          exact fs_comma ho hb ih h44 hS (by omega) htm ⟨h5, h6⟩ hy25 hfc (by omega)
        · rw [if_neg h44]
          by_cases h125 : cA (tx s) p4 = 125
          · rw [if_pos h125]
            exact fs_close ho hb h125 hS (by omega) htm ⟨h5, h6⟩ hy25
          · rw [if_neg h125]
            exact fs_junk (by omega) ho hb h44 h125 hS
