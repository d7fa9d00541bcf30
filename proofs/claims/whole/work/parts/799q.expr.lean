/-! THE CLASS: expressions -/
theorem nWhole_at {s : Mem} {o N l : Nat} {a c e : Int} : nWhole s o N l a c e (67 + o) N = a ∧ nWhole s o N l a c e (68 + o) N = l ∧ nWhole s o N l a c e (69 + o) N = c ∧ nWhole s o N l a c e (70 + o) N = e ∧ nWhole s o N l a c e (71 + o) N = s (71 + o) l ∧ nWhole s o N l a c e (66 + o) 7 = ((N + 1 : Nat) : Int) := by
  unfold nWhole nAdd
  refine ⟨?_, ?_, ?_, ?_, ?_, ?_⟩
  · rw [mu_c (by omega), mu_c (by omega), mu_c (by omega), mu_c (by omega), mu_c (by omega), mu_s]
  · rw [mu_c (by omega), mu_c (by omega), mu_c (by omega), mu_c (by omega), mu_s]
  · rw [mu_c (by omega), mu_c (by omega), mu_c (by omega), mu_s]
  · rw [mu_c (by omega), mu_c (by omega), mu_s]
  · rw [mu_s]
  · rw [mu_c (by omega), mu_s]
    rfl
theorem nWhole_o {s : Mem} {o N l k j : Nat} {a c e : Int} (h : k ≤ 59 ∨ 83 + 26 < k) (ho : o = 0 ∨ o = 26) : nWhole s o N l a c e k j = s k j := by
  unfold nWhole nAdd
  rw [mu_c (by omega), mu_c (by omega), mu_c (by omega), mu_c (by omega), mu_c (by omega), mu_c (by omega)]
theorem nWhole_lo {s : Mem} {o N l k j : Nat} {a c e : Int} (hk : 67 ≤ k) (hj : j < N) : nWhole s o N l a c e (k + o) j = s (k + o) j := by
  unfold nWhole nAdd
  rw [mu_i (by omega), mu_c (by omega), mu_i (by omega), mu_i (by omega), mu_i (by omega), mu_i (by omega)]
theorem nWhole_fr {s : Mem} {o N n P l : Nat} {a c e : Int} (h : N ≤ n) : Fr (XF o N P) s (nWhole s o n l a c e) := by
  unfold nWhole nAdd
  exact ((((((Fr.rf s).mu (Or.inr (Or.inr (Or.inl ⟨by omega, by omega, h⟩)))).mu (Or.inr (Or.inr (Or.inl ⟨by omega, by omega, h⟩)))).mu (Or.inr (Or.inr (Or.inl ⟨by omega, by omega, h⟩)))).mu (Or.inr (Or.inr (Or.inl ⟨by omega, by omega, h⟩)))).mu (Or.inr (Or.inl ⟨rfl, rfl⟩))).mu (Or.inr (Or.inr (Or.inl ⟨by omega, by omega, h⟩)))
theorem NX_at {s s' : Mem} (h : Fr NX s s') : s' 124 6 = s 124 6 ∧ ∀ k j, k ≠ 131 → s' k j = s k j := ⟨h _ _ (by unfold NX; omega), fun k j hk => h _ _ (by unfold NX; omega)⟩
theorem XO_er {T : Tx} {u o k N P f : Nat} {s s1 s2 : Mem} {Z : Option Res} (f1 : Fr (XF o N P) s s1) (f2 : Fr NF s1 s2) (h1 : Z = rI (-1) s2) (h2 : s2 131 5 = f) : XO T u o k N P s Z (.error f) :=
  Or.inl ⟨s2, h1, h2, (f1.mono (fun _ _ h => XF_X h)).tr (f2.mono (fun _ _ h => NF_XFX h))⟩
/-- the ) and the whole -/
theorem ex_close {d k u o k4 N P P4 m l q4 : Nat} {T : Tx} {s s4 : Mem} {c pt dp : Int} {mv rv : Nat} {e : Jvm.Term} (hd : 2 ≤ d) (hNk : N ≤ 25 + k) (h : KS s4 T u o k4) (hq : tP T k4 = q4) (hm : 1 ≤ m) (hk4 : k + 1 + m ≤ k4) (hP4 : P4 + k ≤ P + k4) (hPP : P ≤ P4) (hpu : s4 124 6 = P4) (hus : s4 (66 + o) 7 = ((N + m : Nat) : Int)) (F : Fr (XF o N P) s s4) (hl : l < N + m) (hfi : s4 (71 + o) l = N) (he : esz e = m + 1)
    (HE : ∀ s', AC o P4 s4 s' N (N + m) → s' (67 + o) (N + m) = c → s' (68 + o) (N + m) = l → s' (69 + o) (N + m) = mv → s' (70 + o) (N + m) = rv → s' (71 + o) (N + m) = N → CE s' o P4 e N) :
    XO T u o k N P s (Ze d 136 165 [aR 131, aI pt, aI dp, aI c, aI l, aI mv, aI rv] [] s4) (bd (pTk T 41 q4) fun _ p => .ok (e, p)) := by
  have ho : o = 0 ∨ o = 26 := h.2.2.2.2.2.2
  subst hq
  unfold pTk
  by_cases hc : cA T (tP T k4) = 41
  · rw [if_pos hc, bd_ok]
    obtain ⟨s5, e1, e2, e3, e4⟩ := kt_take (d := d) (by omega) h (by decide) hc
    have hle := KS_le e2
    obtain ⟨n1, n2⟩ := NX_at e4
    have hz := op_z (d := d) (n := N + m) (v := l) (pt := pt) (c := c) (dp := dp) (m := mv) (r := rv) hd ho e1 e2.2.2.2.2.2.1 (by rw [n2 _ _ (by omega), hus]) (by omega) (by omega)
    obtain ⟨a1, a2, a3, a4, a5, a6⟩ := nWhole_at (s := s5) (o := o) (N := N + m) (l := l) (a := c) (c := mv) (e := rv)
    have F5 : Fr (XF o N P) s s5 := F.tr (e4.mono (fun _ _ h => NX_XF h))
    refine ⟨_, k4 + 1, P4, by rw [hz, he]; rfl, KS_X e2 ((nWhole_fr (N := N) (P := P) (by omega)).mono (fun _ _ h => XF_X h)) (by rw [nWhole_o (by decide) ho]; exact e2.2.2.2.1) hle.2.2, e3, by omega, by omega, hPP, by rw [nWhole_o (by decide) ho, n1, hpu], by rw [a6, he]; rfl, HE _ ⟨fun q j hq h1 h2 => ?_, fun j hj => ?_⟩ a1 a2 a3 a4 ?_, F5.tr (nWhole_fr (by omega))⟩
    · rw [nWhole_lo (by omega) h2, n2 _ _ (by omega)]
    · rw [nWhole_o (by decide) ho, n2 _ _ (by omega)]
    · rw [a5, n2 _ _ (by omega), hfi]
  · rw [if_neg hc, bd_er]
    have e1 := kt_takeE (d := d) (by omega) h (by decide) hc
    exact XO_er F ((Fr.rf s4).mu ⟨rfl, rfl⟩) (op_zF e1) (by rw [mu_s])
def KEx (d D : Nat) (T : Tx) (u o : Nat) : Prop := ∀ (k N P : Nat) (s : Mem), KS s T u o k → s 124 6 = P → P ≤ k → s (66 + o) 7 = N → N ≤ 25 + k → XO T u o k N P s (Zc d 135 [aR 131, aI ((7 : Int) - D)] s) (pEx T D (tP T k))
/-- a part behind a sign -/
theorem ex_part {d D k0 k u o N N0 P P0 : Nat} {T : Tx} {s0 s : Mem} {c : Int} {Z : Option Res} {G : Jvm.Term → Nat → PR Jvm.Term} (hd : 2 ≤ d) (ih : KEx d D T u o) (hc : 32 < c ∧ ¬ isD c ∧ c ≠ 60) (h : KS s T u o k) (hpu : s 124 6 = P) (hPk : P ≤ k) (hus : s (66 + o) 7 = N) (hNk : N ≤ 25 + k) (hN0 : N0 ≤ N) (hP0 : P0 ≤ P) (F : Fr (XF o N0 P0) s0 s)
    (hF1 : ∀ s2, Zc d 141 [aR 131, aI c] s = rI 0 s2 → Z = rI (-1) s2)
    (hF2 : ∀ s1 s2, Zc d 141 [aR 131, aI c] s = rI 1 s1 → Zc d 135 [aR 131, aI ((7 : Int) - D)] s1 = rI (-1) s2 → Z = rI (-1) s2)
    (hF3 : ∀ (s1 s2 : Mem) (k2 v : Nat), Zc d 141 [aR 131, aI c] s = rI 1 s1 → Zc d 135 [aR 131, aI ((7 : Int) - D)] s1 = rI v s2 → KS s2 T u o k2 → (cA T (tP T k2) = 46 ∨ cA T (tP T k2) = 91) → Z = rI (-1) (mu s2 131 5 (tP T k2)))
    (hF4 : ∀ (s1 s2 : Mem) (a : Jvm.Term) (q k2 P2 : Nat), Zc d 141 [aR 131, aI c] s = rI 1 s1 → Zc d 135 [aR 131, aI ((7 : Int) - D)] s1 = rI ((N + esz a - 1 : Nat) : Int) s2 → KS s2 T u o k2 → tP T k2 = q → k + 1 + esz a ≤ k2 → P2 + k ≤ P + k2 → P ≤ P2 → s2 124 6 = P2 → s2 (66 + o) 7 = ((N + esz a : Nat) : Int) → CE s2 o P2 a N → Fr (XF o N P) s s2 → XO T u o k0 N0 P0 s0 Z (G a q)) :
    XO T u o k0 N0 P0 s0 Z (bd (pTk T c (tP T k)) fun _ p1 => bd (pEx T D p1) fun a p2 => G a p2) := by
  unfold pTk
  by_cases hcc : cA T (tP T k) = c
  · rw [if_pos hcc, bd_ok]
    obtain ⟨s1, e1, e2, e3, e4⟩ := kt_take (d := d) hd h hc hcc
    obtain ⟨n1, n2⟩ := NX_at e4
    rw [← e3]
    have hX := ih (k + 1) N P s1 e2 (by rw [n1, hpu]) (by omega) (by rw [n2 _ _ (by have := h.2.2.2.2.2.2; omega), hus]) (by omega)
    have F1 : Fr (XF o N0 P0) s0 s1 := F.tr (e4.mono (fun _ _ h => NX_XF h))
    cases hx : pEx T D (tP T (k + 1)) with
    | ok aq =>
      obtain ⟨a, q⟩ := aq
      rw [hx] at hX
      obtain ⟨s2, k2, P2, g1, g2, g3, g4, g5, g6, g7, g8, g9, g10⟩ := hX
      exact hF4 s1 s2 a q k2 P2 e1 g1 g2 g3 (by omega) (by omega) g6 g7 g8 g9 ((e4.mono (fun _ _ h => NX_XF h)).tr g10)
    | error f =>
      rw [hx] at hX
      rw [bd_er]
      rcases hX with ⟨s2, g1, g2, g3⟩ | ⟨s2, k2, v, g1, g2, g3, g4, g5⟩
      · exact Or.inl ⟨s2, hF2 s1 s2 e1 g1, g2, (F1.mono (fun _ _ h => XF_X h)).tr (g3.mono (fun _ _ h => XFX_le hN0 hP0 h))⟩
      · subst g3
        exact Or.inl ⟨_, hF3 s1 s2 k2 v e1 g1 g2 g4, by rw [mu_s], ((F1.tr (g5.mono (fun _ _ h => XF_le hN0 hP0 h))).mono (fun _ _ h => XF_X h)).mu (Or.inr ⟨rfl, rfl⟩)⟩
  · rw [if_neg hcc, bd_er]
    have e1 := kt_takeE (d := d) hd h hc hcc
    exact XO_er F ((Fr.rf s).mu ⟨rfl, rfl⟩) (hF1 _ e1) (by rw [mu_s])
theorem XF_AC {o N P n : Nat} {s s' : Mem} (h : Fr (XF o N P) s s') (hn : n ≤ N) (ho : o = 0 ∨ o = 26) : AC o P s s' 0 n :=
  ⟨fun k j hk _ h2 => h _ _ (by unfold XF; omega), fun j hj => h _ _ (by unfold XF; omega)⟩
theorem pend_44 {d k u o : Nat} {T : Tx} {s : Mem} {c : Int} (hd : 2 ≤ d) (h : KS s T u o k) (hp : cA T (tP T k) = 46 ∨ cA T (tP T k) = 91) (hc : c = 44 ∨ c = 41) : Zc d 141 [aR 131, aI c] s = rI 0 (mu s 131 5 (tP T k)) := kt_takeE hd h (by omega) (by omega)
theorem ex_not {d D k u o N P : Nat} {T : Tx} {s : Mem} (hd : 2 ≤ d) (hD : D ≤ 6) (ih : KEx d D T u o) (h : KS s T u o k) (hc : cA T (tP T k) = 33) (hpu : s 124 6 = P) (hPk : P ≤ k) (hus : s (66 + o) 7 = N) (hNk : N ≤ 25 + k) :
    XO T u o k N P s (Zc (d + 1) 136 [aR 131, aI 1, aI ((7 : Int) - D - 1)] s) (bd (pTk T 40 (sk T (tP T k + 1))) fun _ p1 => bd (pEx T D p1) fun a p2 => bd (pTk T 41 p2) fun _ p3 => .ok (eNot a, p3)) := by
  have ho : o = 0 ∨ o = 26 := h.2.2.2.2.2.2
  have hkd := (KS_ch h (c := 33) (by decide)).mpr hc
  have hlt := KS_lt h (by omega)
  have h1 := KS_nx h hlt
  have f1 : Fr (XF o N P) s (mu s 131 4 ((k : Int) + 1)) := (Fr.rf s).mu (Or.inl ⟨rfl, rfl⟩)
  have hdp : (0 : Int) ≤ (7 : Int) - D - 1 ∧ (7 : Int) - D - 1 ≤ 10 := by omega
  have hdd : (7 : Int) - D - 1 + 1 = (7 : Int) - D := by omega
  rw [← tP_one (k := k) ⟨by omega, by omega⟩]
  refine ex_part hd ih (by decide) h1 (by rw [mu_c (by decide), hpu]) (by omega) (by rw [mu_c (by omega), hus]) (by omega) (Nat.le_refl _) (Nat.le_refl _) f1 (fun s2 t1 => op_aF (by omega) h hkd hdp (Or.inl ⟨t1, rfl⟩)) (fun s1 s2 t1 t2 => op_aF (by omega) h hkd hdp (Or.inr ⟨t1, by rw [hdd]; exact t2⟩)) (fun s1 s2 k2 v t1 t2 g1 g2 => ?_) (fun s1 s2 a q k2 P2 t1 t2 g1 g2 g3 g4 g5 g6 g7 g8 g9 => ?_)
  · rw [op_a (by omega) h hkd hdp t1 (by rw [hdd]; exact t2), op_not (by decide)]
    exact op_zF (m := 0) (r := 0) (pend_44 hd g1 g2 (Or.inr rfl))
  · rw [op_a (by omega) h hkd hdp t1 (by rw [hdd]; exact t2), op_not (by decide)]
    have := esz_pos a
    exact ex_close (mv := 0) (rv := 0) hd hNk g1 g2 this (by omega) (by omega) g5 g6 g7 (f1.tr g9) (by omega) (CE_first g8) (by simp only [eNot, esz]; omega) (fun s' A b1 b2 b3 b4 b5 => ⟨b1, b2, b5, CE_put g8 A⟩)
theorem ex_bits {d D k u o N P : Nat} {T : Tx} {s : Mem} (hd : 2 ≤ d) (hD : D ≤ 6) (ih : KEx d D T u o) (h : KS s T u o k) (hc : cA T (tP T k) = 84) (hpu : s 124 6 = P) (hPk : P ≤ k) (hus : s (66 + o) 7 = N) (hNk : N ≤ 25 + k) :
    XO T u o k N P s (Zc (d + 1) 136 [aR 131, aI 1, aI ((7 : Int) - D - 1)] s) (bd (pTk T 40 (sk T (tP T k + 1))) fun _ p1 => bd (pEx T D p1) fun a p2 => bd (pTk T 44 p2) fun _ p3 => bd (pNu T 0 15 p3) fun h p4 => bd (pTk T 44 p4) fun _ p5 => bd (pNu T 0 h p5) fun l p6 => bd (pTk T 41 p6) fun _ p7 => .ok (eBit h l a, p7)) := by
  have ho : o = 0 ∨ o = 26 := h.2.2.2.2.2.2
  have hkd := (KS_ch h (c := 84) (by decide)).mpr hc
  have hlt := KS_lt h (by omega)
  have h1 := KS_nx h hlt
  have f1 : Fr (XF o N P) s (mu s 131 4 ((k : Int) + 1)) := (Fr.rf s).mu (Or.inl ⟨rfl, rfl⟩)
  have hdp : (0 : Int) ≤ (7 : Int) - D - 1 ∧ (7 : Int) - D - 1 ≤ 10 := by omega
  have hdd : (7 : Int) - D - 1 + 1 = (7 : Int) - D := by omega
  rw [← tP_one (k := k) ⟨by omega, by omega⟩]
  refine ex_part hd ih (by decide) h1 (by rw [mu_c (by decide), hpu]) (by omega) (by rw [mu_c (by omega), hus]) (by omega) (Nat.le_refl _) (Nat.le_refl _) f1 (fun s2 t1 => op_aF (by omega) h hkd hdp (Or.inl ⟨t1, rfl⟩)) (fun s1 s2 t1 t2 => op_aF (by omega) h hkd hdp (Or.inr ⟨t1, by rw [hdd]; exact t2⟩)) (fun s1 s2 k2 v t1 t2 g1 g2 => ?_) (fun s1 s2 a q k2 P2 t1 t2 g1 g2 g3 g4 g5 g6 g7 g8 g9 => ?_)
  · rw [op_a (by omega) h hkd hdp t1 (by rw [hdd]; exact t2)]
    exact op_bitsF (s1 := s) (s2 := s) (s3 := s) (h := 0) (Or.inl (pend_44 hd g1 g2 (Or.inl rfl)))
  · rw [op_a (by omega) h hkd hdp t1 (by rw [hdd]; exact t2)]
    have := esz_pos a
    have F2 := f1.tr g9
    subst g2
    unfold pTk
    by_cases c1 : cA T (tP T k2) = 44
    · rw [if_pos c1, bd_ok]
      obtain ⟨s3, e1, e2, e3, e4⟩ := kt_take (d := d) hd g1 (by decide) c1
      have F3 : Fr (XF o N P) s s3 := F2.tr (e4.mono (fun _ _ h => NX_XF h))
      rw [← e3]
      unfold pNu
      by_cases c2 : okNu T 0 15 (tP T (k2 + 1))
      · rw [if_pos c2, bd_ok]
        obtain ⟨s4, e5, e6, e7, e8⟩ := kt_num (d := d) hd e2 (by decide) c2
        have F4 : Fr (XF o N P) s s4 := F3.tr (e8.mono (fun _ _ h => NX_XF h))
        have hv : 0 ≤ nV T (tP T (k2 + 1)) (nE T (tP T (k2 + 1)) - tP T (k2 + 1)) ∧ nV T (tP T (k2 + 1)) (nE T (tP T (k2 + 1)) - tP T (k2 + 1)) ≤ 15 := ⟨c2.2.2.2.1, c2.2.2.2.2⟩
        generalize nV T (tP T (k2 + 1)) (nE T (tP T (k2 + 1)) - tP T (k2 + 1)) = hv0 at e5 hv ⊢
        obtain ⟨hh, rfl⟩ : ∃ n : Nat, hv0 = n := ⟨hv0.toNat, by omega⟩
        rw [Int.toNat_natCast, ← e7]
        by_cases c3 : cA T (tP T (k2 + 1 + 1)) = 44
        · rw [if_pos c3, bd_ok]
          obtain ⟨s5, e9, e10, e11, e12⟩ := kt_take (d := d) hd e6 (by decide) c3
          have F5 : Fr (XF o N P) s s5 := F4.tr (e12.mono (fun _ _ h => NX_XF h))
          rw [← e11]
          by_cases c4 : okNu T 0 hh (tP T (k2 + 1 + 1 + 1))
          · rw [if_pos c4, bd_ok]
            obtain ⟨s6, e13, e14, e15, e16⟩ := kt_num (d := d) hd e10 (by omega) c4
            have F6 : Fr (XF o N P) s s6 := F5.tr (e16.mono (fun _ _ h => NX_XF h))
            have lv : 0 ≤ nV T (tP T (k2 + 1 + 1 + 1)) (nE T (tP T (k2 + 1 + 1 + 1)) - tP T (k2 + 1 + 1 + 1)) ∧ nV T (tP T (k2 + 1 + 1 + 1)) (nE T (tP T (k2 + 1 + 1 + 1)) - tP T (k2 + 1 + 1 + 1)) ≤ hh := ⟨c4.2.2.2.1, c4.2.2.2.2⟩
            generalize nV T (tP T (k2 + 1 + 1 + 1)) (nE T (tP T (k2 + 1 + 1 + 1)) - tP T (k2 + 1 + 1 + 1)) = lv0 at e13 lv ⊢
            obtain ⟨ll, rfl⟩ : ∃ n : Nat, lv0 = n := ⟨lv0.toNat, by omega⟩
            rw [Int.toNat_natCast, ← e15, op_bits e1 e5 e9 e13]
            have N4 : Fr NX s2 s6 := ((e4.tr e8).tr e12).tr e16
            obtain ⟨n1, n2⟩ := NX_at N4
            exact ex_close (mv := hh) (rv := ll) hd hNk e14 rfl this (by omega) (by omega) g5 (by rw [n1, g6]) (by rw [n2 _ _ (by omega), g7]) F6 (by omega) (by rw [n2 _ _ (by omega)]; exact CE_first g8) (by simp only [eBit, esz]; omega) (fun s' A b1 b2 b3 b4 b5 => ⟨b1, b2, b3, b4, ⟨by omega, by omega⟩, b5, CE_put g8 ⟨fun q j hq j1 j2 => by rw [A.1 _ _ hq j1 j2, n2 _ _ (by omega)], fun j hj => by rw [A.2 j hj, n2 _ _ (by omega)]⟩⟩)
          · rw [if_neg c4, bd_er]
            obtain ⟨s6, e13, e14, e15⟩ := kt_numF (d := d) hd e10 (by omega) c4
            exact XO_er F5 e15 (op_bitsF (Or.inr (Or.inr (Or.inr ⟨e1, e5, e9, e13⟩)))) e14
        · rw [if_neg c3, bd_er]
          obtain ⟨s5, e9, e10, e11⟩ := kt_takeF (d := d) hd e6 (by decide) c3
          exact XO_er F4 e11 (op_bitsF (s3 := s) (Or.inr (Or.inr (Or.inl ⟨e1, e5, e9⟩)))) e10
      · rw [if_neg c2, bd_er]
        obtain ⟨s4, e5, e6, e7⟩ := kt_numF (d := d) hd e2 (by decide) c2
        exact XO_er F3 e7 (op_bitsF (s2 := s) (s3 := s) (h := 0) (Or.inr (Or.inl ⟨e1, e5⟩))) e6
    · rw [if_neg c1, bd_er]
      obtain ⟨s3, e1, e2, e3⟩ := kt_takeF (d := d) hd g1 (by decide) c1
      exact XO_er F2 e3 (op_bitsF (s1 := s) (s2 := s) (s3 := s) (h := 0) (Or.inl e1)) e2
theorem ex_two {d D k u o N P : Nat} {T : Tx} {s : Mem} {c : Nat} (hd : 2 ≤ d) (hD : D ≤ 6) (ih : KEx d D T u o) (h : KS s T u o k) (hc2 : two c) (hc : s 111 k = c) (hp1 : tP T (k + 1) = sk T (tP T k + 1)) (hlt : k < u) (hpu : s 124 6 = P) (hPk : P ≤ k) (hus : s (66 + o) 7 = N) (hNk : N ≤ 25 + k) :
    XO T u o k N P s (Zc (d + 1) 136 [aR 131, aI 2, aI ((7 : Int) - D - 1)] s) (bd (pTk T 40 (sk T (tP T k + 1))) fun _ p1 => bd (pEx T D p1) fun a p2 => bd (pTk T 44 p2) fun _ p3 => bd (pEx T D p3) fun b p4 => bd (pTk T 41 p4) fun _ p5 => .ok (eTwo c a b, p5)) := by
  have ho : o = 0 ∨ o = 26 := h.2.2.2.2.2.2
  have h1 := KS_nx h hlt
  have f1 : Fr (XF o N P) s (mu s 131 4 ((k : Int) + 1)) := (Fr.rf s).mu (Or.inl ⟨rfl, rfl⟩)
  have hdp : (0 : Int) ≤ (7 : Int) - D - 1 ∧ (7 : Int) - D - 1 ≤ 10 := by omega
  have hdd : (7 : Int) - D - 1 + 1 = (7 : Int) - D := by omega
  have h84 : ¬ (c : Int) = 84 := by unfold two at hc2; omega
  rw [← hp1]
  refine ex_part hd ih (by decide) h1 (by rw [mu_c (by decide), hpu]) (by omega) (by rw [mu_c (by omega), hus]) (by omega) (Nat.le_refl _) (Nat.le_refl _) f1 (fun s2 t1 => op_aF (by omega) h hc hdp (Or.inl ⟨t1, rfl⟩)) (fun s1 s2 t1 t2 => op_aF (by omega) h hc hdp (Or.inr ⟨t1, by rw [hdd]; exact t2⟩)) (fun s1 s2 k2 v t1 t2 g1 g2 => ?_) (fun s1 s2 a q k2 P2 t1 t2 g1 g2 g3 g4 g5 g6 g7 g8 g9 => ?_)
  · rw [op_a (by omega) h hc hdp t1 (by rw [hdd]; exact t2)]
    exact op_twoF (s1 := s) h84 hdp (Or.inl (pend_44 hd g1 g2 (Or.inl rfl)))
  · rw [op_a (by omega) h hc hdp t1 (by rw [hdd]; exact t2)]
    have := esz_pos a
    have F2 := f1.tr g9
    subst g2
    refine ex_part hd ih (by decide) g1 g6 (by omega) g7 (by omega) (by omega) g5 F2 (fun s2 t1 => op_twoF (s1 := s) h84 hdp (Or.inl t1)) (fun s1 s2 t1 t2 => op_twoF h84 hdp (Or.inr ⟨t1, by rw [hdd]; exact t2⟩)) (fun s1 s2 k2 v t1 t2 g1 g2 => ?_) (fun s1' s2' b q k3 P3 t3 t4 i1 i2 i3 i4 i5 i6 i7 i8 i9 => ?_)
    · rw [op_two h84 hdp t1 (by rw [hdd]; exact t2)]
      exact op_zF (r := 0) (pend_44 hd g1 g2 (Or.inr rfl))
    · rw [op_two h84 hdp t3 (by rw [hdd]; exact t4)]
      have := esz_pos b
      have CA := CE_P i5 (CE_put g8 ((XF_AC i9 (Nat.le_refl _) ho).sub (Nat.zero_le _) (Nat.le_refl _)))
      have F3 : Fr (XF o N P) s s2' := F2.tr (i9.mono (fun _ _ h => XF_le (by omega) g5 h))
      exact ex_close (m := esz a + esz b) (mv := N + esz a + esz b - 1) (rv := 0) hd hNk i1 i2 (by omega) (by omega) (by omega) (by omega) i6 (by rw [i7, Nat.add_assoc]) F3 (by omega) (CE_first CA) (by simp only [eTwo, esz]; omega) (fun s' A b1 b2 b3 b4 b5 => by
        rw [← Nat.add_assoc] at *
        exact ⟨b1, hc2, b2, b3, b5, CE_put CA (A.sub (Nat.le_refl _) (by omega)), CE_put i8 (A.sub (by omega) (Nat.le_refl _))⟩)
theorem ex_mux {d D k u o N P : Nat} {T : Tx} {s : Mem} (hd : 2 ≤ d) (hD : D ≤ 6) (ih : KEx d D T u o) (h : KS s T u o k) (hc : cA T (tP T k) = 77) (hpu : s 124 6 = P) (hPk : P ≤ k) (hus : s (66 + o) 7 = N) (hNk : N ≤ 25 + k) :
    XO T u o k N P s (Zc (d + 1) 136 [aR 131, aI 3, aI ((7 : Int) - D - 1)] s) (bd (pTk T 40 (sk T (tP T k + 1))) fun _ p1 => bd (pEx T D p1) fun c p2 => bd (pTk T 44 p2) fun _ p3 => bd (pEx T D p3) fun a p4 => bd (pTk T 44 p4) fun _ p5 => bd (pEx T D p5) fun b p6 => bd (pTk T 41 p6) fun _ p7 => .ok (eMux c a b, p7)) := by
  have ho : o = 0 ∨ o = 26 := h.2.2.2.2.2.2
  have hkd := (KS_ch h (c := 77) (by decide)).mpr hc
  have hlt := KS_lt h (by omega)
  have h1 := KS_nx h hlt
  have f1 : Fr (XF o N P) s (mu s 131 4 ((k : Int) + 1)) := (Fr.rf s).mu (Or.inl ⟨rfl, rfl⟩)
  have hdp : (0 : Int) ≤ (7 : Int) - D - 1 ∧ (7 : Int) - D - 1 ≤ 10 := by omega
  have hdd : (7 : Int) - D - 1 + 1 = (7 : Int) - D := by omega
  rw [← tP_one (k := k) ⟨by omega, by omega⟩]
  refine ex_part hd ih (by decide) h1 (by rw [mu_c (by decide), hpu]) (by omega) (by rw [mu_c (by omega), hus]) (by omega) (Nat.le_refl _) (Nat.le_refl _) f1 (fun s2 t1 => op_aF (by omega) h hkd hdp (Or.inl ⟨t1, rfl⟩)) (fun s1 s2 t1 t2 => op_aF (by omega) h hkd hdp (Or.inr ⟨t1, by rw [hdd]; exact t2⟩)) (fun s1 s2 k2 v t1 t2 g1 g2 => ?_) (fun s1 s2 c q k2 P2 t1 t2 g1 g2 g3 g4 g5 g6 g7 g8 g9 => ?_)
  · rw [op_a (by omega) h hkd hdp t1 (by rw [hdd]; exact t2)]
    exact op_muxF (s1 := s) (s2 := s) (s3 := s) (a := 0) hdp (Or.inl (pend_44 hd g1 g2 (Or.inl rfl)))
  · rw [op_a (by omega) h hkd hdp t1 (by rw [hdd]; exact t2)]
    have := esz_pos c
    have F2 := f1.tr g9
    subst g2
    refine ex_part hd ih (by decide) g1 g6 (by omega) g7 (by omega) (by omega) g5 F2 (fun s2 t1 => op_muxF (s1 := s) (s2 := s) (s3 := s) (a := 0) hdp (Or.inl t1)) (fun s1 s2 t1 t2 => op_muxF (s2 := s) (s3 := s) (a := 0) hdp (Or.inr (Or.inl ⟨t1, by rw [hdd]; exact t2⟩))) (fun s1 s2 k2 v t1 t2 g1 g2 => ?_) (fun s3 s4 a q k3 P3 t3 t4 i1 i2 i3 i4 i5 i6 i7 i8 i9 => ?_)
    · exact op_muxF (s3 := s) hdp (Or.inr (Or.inr (Or.inl ⟨t1, by rw [hdd]; exact t2, pend_44 hd g1 g2 (Or.inl rfl)⟩)))
    · have := esz_pos a
      have CC := CE_P i5 (CE_put g8 ((XF_AC i9 (Nat.le_refl _) ho).sub (Nat.zero_le _) (Nat.le_refl _)))
      have F3 : Fr (XF o N P) s s4 := F2.tr (i9.mono (fun _ _ h => XF_le (by omega) g5 h))
      subst i2
      refine ex_part hd ih (by decide) i1 i6 (by omega) i7 (by omega) (by omega) (by omega) F3 (fun s2 t1 => op_muxF (s3 := s) hdp (Or.inr (Or.inr (Or.inl ⟨t3, by rw [hdd]; exact t4, t1⟩)))) (fun s1 s2 t1 t2 => op_muxF hdp (Or.inr (Or.inr (Or.inr ⟨t3, by rw [hdd]; exact t4, t1, by rw [hdd]; exact t2⟩)))) (fun s1 s2 k2 v t1 t2 g1 g2 => ?_) (fun s5 s6 b q k4 P4 t5 t6 j1 j2 j3 j4 j5 j6 j7 j8 j9 => ?_)
      · rw [op_mux hdp t3 (by rw [hdd]; exact t4) t1 (by rw [hdd]; exact t2)]
        exact op_zF (pend_44 hd g1 g2 (Or.inr rfl))
      · rw [op_mux hdp t3 (by rw [hdd]; exact t4) t5 (by rw [hdd]; exact t6)]
        have := esz_pos b
        have CC2 := CE_P j5 (CE_put CC ((XF_AC j9 (n := N + esz c) (by omega) ho).sub (Nat.zero_le _) (Nat.le_refl _)))
        have CA2 := CE_P j5 (CE_put i8 ((XF_AC j9 (Nat.le_refl _) ho).sub (Nat.zero_le _) (Nat.le_refl _)))
        have F4 : Fr (XF o N P) s s6 := F3.tr (j9.mono (fun _ _ h => XF_le (by omega) (by omega) h))
        exact ex_close (m := esz c + esz a + esz b) (mv := N + esz c + esz a - 1) (rv := N + esz c + esz a + esz b - 1) hd hNk j1 j2 (by omega) (by omega) (by omega) (by omega) j6 (by rw [j7, Nat.add_assoc, Nat.add_assoc, Nat.add_assoc]) F4 (by omega) (CE_first CC2) (by simp only [eMux, esz]; omega) (fun s' A b1 b2 b3 b4 b5 => by
          rw [← Nat.add_assoc, ← Nat.add_assoc] at *
          exact ⟨b1, b2, b3, b4, b5, CE_put CC2 (A.sub (Nat.le_refl _) (by omega)), CE_put CA2 (A.sub (by omega) (by omega)), CE_put j8 (A.sub (by omega) (Nat.le_refl _))⟩)
