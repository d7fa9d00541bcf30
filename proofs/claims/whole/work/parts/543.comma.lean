theorem fs_comma {d D o t m c y p n b fu : Nat} {f k : Int} {l3 : AV} {s : Mem} {t1 : Jvm.Term} {p4 : Nat} (ho : okT s) (hb : s 0 5 = 0)
    (ih : ∀ (j p m c y : Nat) (s : Mem) (f : Int) (k : Int) (l3 : AV), okT s → s 0 5 = 0 → s 0 2 = j → j ≤ (tx s).2 → sk (tx s) j = p → (tx s).2 < p + fu → s 0 16 = m → s 0 17 = c → s 0 18 = ((o + 1 : Nat) : Int) → s 10 o = t → t < m → s 11 o = f → f < c → s 5 t = y → y ≤ 25 → m ≤ j → 2 * c ≤ j →
      OF d o t m c p y f k l3 s (pFs (tx s) (pTy (tx s) D) fu p))
    (h44 : cA (tx s) p4 = 44) (h : FS d o t m c y p n b f k l3 s t1 p4) (hoD : o < 3) (htm : t < m) (hnb : n < 26 ∧ b ≤ 1) (hy25 : y ≤ 25) (hfc : f < c) (hfu : (tx s).2 < p + (fu + 1)) :
    OF d o t m c p y f k l3 s (bd (pFs (tx s) (pTy (tx s) D) fu (sk (tx s) (p4 + 1))) fun r p5 => .ok (fCons n b t1 r, p5)) := by
  obtain ⟨s1, s4, n1, m2, c2, l3', h1, zz, F, ⟨a1, a2, a3, a4⟩, ⟨a5, a6⟩, ⟨a7, a8, a9, a10⟩, a11, a12, ⟨a13, a14⟩, R4, b1, b2, b3, b4, b5, b6⟩ := h
  have hlen := tx_le ho
  rw [h44] at zz
  have hp4' : p4 < (tx s).2 := cA_in (by omega)
  have F5 : Fr (FF m c o t f) s (mu s4 0 2 ((p4 : Int) + 1)) := F.mu (by unfold FF; omega)
  obtain ⟨x5, o5, bb5, w5⟩ := fr_ff F5 ho
  have q0 : ∀ {i : Nat}, i ≠ 2 → mu s4 0 2 ((p4 : Int) + 1) 0 i = s4 0 i := fun h => mu_i h
  have qk : ∀ {k i : Nat}, k ≠ 0 → mu s4 0 2 ((p4 : Int) + 1) k i = s4 k i := fun h => mu_c h
  have at5 : mu s4 0 2 ((p4 : Int) + 1) 0 2 = ((p4 + 1 : Nat) : Int) := by rw [mu_s]; rfl
  have hco := fun s6 (h : Zc d 14 [aR 0] (mu s4 0 2 ((p4 : Int) + 1)) = rV s6) => tt_comma (d := d) (p := p4) s4 s6 a1 (by omega) l3' h
  generalize mu s4 0 2 ((p4 : Int) + 1) = s5 at *
  have hg := sk_ge (tx s) (p4 + 1)
  have hI := ih (p4 + 1) (sk (tx s) (p4 + 1)) m2 c2 (min 25 (y + min 25 (tsz t1))) s5 c 44 l3' o5 (by rw [bb5, hb]) at5 (by rw [x5]; omega) (by rw [x5]) (by rw [x5]; omega) (by rw [q0 (by decide), a2]) (by rw [q0 (by decide), a3]) (by rw [q0 (by decide), a4]) (by rw [qk (by decide), a5]) (by omega) (by rw [qk (by decide), a6]) (by omega) (by rw [qk (by decide), a11]) (by omega) (by omega) (by omega)
  rw [x5] at hI
  cases hq3 : pFs (tx s) (pTy (tx s) D) fu (sk (tx s) (p4 + 1)) with
  | error e =>
    rw [hq3] at hI
    obtain ⟨s6, s', e0, e1, e2, e3, e4⟩ := hI
    rw [bd_er]
    exact ⟨s1, s', h1, (zz.trans (hco s6 e0)).trans e1, e2, e3, (F5.mono (fun _ _ => FF_X)).tr (e4.mono (fun _ _ => FFX_FF b1 (by omega)))⟩
  | ok rp =>
    obtain ⟨r, p5⟩ := rp
    rw [hq3] at hI
    obtain ⟨s6, s', m', c', j', l2, l3'', e0, e1, e2, e3, e4, e5, e6, e7, e8, e9, e10, e11, ⟨e12, e13⟩, e14, e15, e16, e17, e18⟩ := hI
    rw [x5] at e7 e8
    rw [bd_ok]
    have hfx := e17 (by omega)
    rw [Int.toNat_natCast] at hfx
    have RR : RT s' m m' c c' true t1 n1 := RT_wide (Nat.le_refl _) e12 (by omega) e13 (RT_put (fun k j h => by rw [e18 _ _ (FF_noR htm h), qk (by omega)]) R4)
    have R2 : RT s' m m' c c' false r (c2 : Int) := RT_wide b1 (Nat.le_refl _) (by omega) (Nat.le_refl _) e2
    refine ⟨s1, s', m', c', j', l2, l3'', h1, (zz.trans (hco s6 e0)).trans e1, ?_, e3, e4, e5, e6, e7, e8, by omega, e10, e11, ⟨by omega, by omega⟩, ?_, ?_, fun h => ?_, fun h => ?_, F5.tr (e18.mono (fun _ _ => FF_FF b1 (by omega)))⟩
    · unfold fCons RT
      rw [Int.toNat_natCast, hfx]
      refine ⟨by omega, by omega, ?_, ?_, hnb, ?_, R2⟩
      · rw [e18 _ _ (FF_no1 (by decide) (by omega)), qk (by decide), a7]
      · rw [e18 _ _ (FF_no1 (by decide) (by omega)), qk (by decide), a8]
      · rw [e18 _ _ (FF_no1 (by decide) (by omega)), qk (by decide), a9]
        exact RR
    · rw [e14]
      simp only [fCons, tsz]
      omega
    · simp only [fCons, tsz]
      omega
    · rw [e18 _ _ (FF_no3 (by omega) (by omega)), qk (by decide), a13 h]
    · rw [e18 _ _ (FF_no2 (by decide) (by omega) (by omega)), qk (by decide), a14 h]
