/-- while a ? is closed: those below k are done -/
def CLI (s : Mem) (o N L i t : Nat) (now tt : Nat → Jvm.Term) (f : Nat → Fm) (r : Nat → List Fm) (k K : Nat) : Prop :=
  s 137 9 = i ∧ s 137 10 = t ∧ s (58 + o) 6 = K ∧ NS s o N ∧ ∀ g, g < 24 → CN1 s o N L K (if g < k then fmC (now g) (f g) else now g) (s 139 g) ∧ CN1 s o N L K (tt g) (s (145 + i) g) ∧ (∃ m : Nat, s 148 i = ((m + esz (f g).2.2.1 - 1 : Nat) : Int) ∧ CR s o (f g).2.2.1 m ∧ 25 ≤ m ∧ m + esz (f g).2.2.1 ≤ N) ∧ FRM s o N L K g (r g) ∧ ((f g).2.2.2 = true ↔ t.testBit g = true)
def CLF (o k j : Nat) : Prop := (k = 138 ∧ 225 ≤ j) ∨ k = 139 ∨ (k = 58 + o ∧ j = 6) ∨ (74 + o ≤ k ∧ k ≤ 76 + o)
theorem lc_loop {d o N L i t : Nat} {now tt : Nat → Jvm.Term} {f : Nat → Fm} {r : Nat → List Fm} (hd : 1 ≤ d) (ho : o = 0 ∨ o = 26) (hN : N ≤ 225) (hL : L ≤ 24) (hi : i < 3) (ht2 : t < 2 ^ 24) (hr : ∀ g, g < 24 → (r g).length = i) (htt : ∀ g, g < 24 → (f g).2.1 = some (tt g)) : ∀ (m k K : Nat) (s : Mem) (l3 l4 : AV), k + m = 24 → CLI s o N L i t now tt f r k K → (K + m ≤ 840 ∨ (K ≤ 840 ∧ ∀ g, g < 24 → t.testBit g = false)) →
    ∃ (s' : Mem) (K' : Nat) (l3' l4' : AV), Ze d 108 12 [aR 137, aR (58 + o), aI k, l3, l4] [] s = Ze d 108 12 [aR 137, aR (58 + o), aI ((24 : Nat) : Int), l3', l4'] [] s' ∧ CLI s' o N L i t now tt f r 24 K' ∧ (K ≤ K' ∧ K' ≤ K + m) ∧ ((∀ g, g < 24 → t.testBit g = false) → K' = K) ∧ Fr (CLF o) s s' ∧ KP o K s s' := by
  intro m
  induction m with
  | zero =>
    intro k K s l3 l4 hk h _
    have : k = 24 := by omega
    subst this
    exact ⟨s, K, l3, l4, rfl, h, ⟨Nat.le_refl _, Nat.le_refl _⟩, fun _ => rfl, Fr.rf s, KP_rf⟩
  | succ m ih =>
    intro k K s l3 l4 hk h hcap
    obtain ⟨h1, h2, h3, h4, h5⟩ := h
    have hk24 : k < 24 := by omega
    obtain ⟨b1, b2, ⟨mm, b3, b3', b3'', b3'''⟩, b4, b5⟩ := h5 k hk24
    rw [if_neg (by omega)] at b1
    by_cases hbit : t.testBit k = true
    · have hcap' : K + (m + 1) ≤ 840 := by
        rcases hcap with z | ⟨-, z⟩
        · exact z
        · rw [z k hk24] at hbit
          cases hbit
      obtain ⟨x, hx, x2, x3⟩ := b2
      obtain ⟨y, hy, y2, y3⟩ := b1
      have xl := CD_lt hN hL x2
      have yl := CD_lt hN hL y2
      have hp := esz_pos (f k).2.2.1
      have hz := cl_hit (d := d) (l3 := l3) (l4 := l4) hd ho hi hk24 h1 h2 ht2 hbit hx hy b3 (by omega) (by omega) (by omega) h3 (by omega)
      rw [hz]
      generalize hnv : ior (ior (s 138 (mm + esz (f k).2.2.1 - 1)) (s 138 x)) (s 138 y) = nv
      have a1 : ∀ q j, ¬ CLF o q j → clS s o K k ((mm + esz (f k).2.2.1 - 1 : Nat) : Int) x y nv q j = s q j := fun q j hn => by
        unfold CLF at hn
        unfold clS chS
        rw [mu_c (by omega)]
        have e1 : mu (mu (mu (mu (mu s (74 + o) K ((mm + esz (f k).2.2.1 - 1 : Nat) : Int)) (75 + o) K x) (76 + o) K y) (58 + o) 6 ((K : Int) + 1)) 138 (225 + K) nv q j = mu (mu (mu (mu s (74 + o) K ((mm + esz (f k).2.2.1 - 1 : Nat) : Int)) (75 + o) K x) (76 + o) K y) (58 + o) 6 ((K : Int) + 1) q j := by
          by_cases e : q = 138
          · exact mu_i (by omega)
          · exact mu_c e
        rw [e1]
        have e2 : mu (mu (mu (mu s (74 + o) K ((mm + esz (f k).2.2.1 - 1 : Nat) : Int)) (75 + o) K x) (76 + o) K y) (58 + o) 6 ((K : Int) + 1) q j = mu (mu (mu s (74 + o) K ((mm + esz (f k).2.2.1 - 1 : Nat) : Int)) (75 + o) K x) (76 + o) K y q j := by
          by_cases e : q = 58 + o
          · exact mu_i (by omega)
          · exact mu_c e
        rw [e2, mu_c (by omega), mu_c (by omega), mu_c (by omega)]
      have a2 : ∀ c j, 74 ≤ c → c ≤ 76 → j < K → clS s o K k ((mm + esz (f k).2.2.1 - 1 : Nat) : Int) x y nv (c + o) j = s (c + o) j := fun c j h1 h2 h3 => by
        unfold clS chS
        rw [mu_c (by omega), mu_c (by omega), mu_c (by omega), mu_i (by omega), mu_i (by omega), mu_i (by omega)]
      have a3 : ∀ j, j < 225 + K → clS s o K k ((mm + esz (f k).2.2.1 - 1 : Nat) : Int) x y nv 138 j = s 138 j := fun j hj => by
        unfold clS chS
        rw [mu_c (by decide), mu_i (by omega), mu_c (by omega), mu_c (by omega), mu_c (by omega), mu_c (by omega)]
      have a4 : clS s o K k ((mm + esz (f k).2.2.1 - 1 : Nat) : Int) x y nv 138 (225 + K) = nv := by unfold clS; rw [mu_c (by decide), mu_s]
      have a5 : clS s o K k ((mm + esz (f k).2.2.1 - 1 : Nat) : Int) x y nv 139 k = ((225 + K : Nat) : Int) := by unfold clS; rw [mu_s]
      have a6 : ∀ j, j ≠ k → clS s o K k ((mm + esz (f k).2.2.1 - 1 : Nat) : Int) x y nv 139 j = s 139 j := fun j hj => by
        unfold clS chS
        rw [mu_i hj, mu_c (by decide), mu_c (by omega), mu_c (by omega), mu_c (by omega), mu_c (by omega)]
      have a7 : clS s o K k ((mm + esz (f k).2.2.1 - 1 : Nat) : Int) x y nv (58 + o) 6 = ((K + 1 : Nat) : Int) := by
        unfold clS chS
        rw [mu_c (by omega), mu_c (by omega), mu_s]
        rfl
      have a8 : clS s o K k ((mm + esz (f k).2.2.1 - 1 : Nat) : Int) x y nv (74 + o) K = ((mm + esz (f k).2.2.1 - 1 : Nat) : Int) ∧ clS s o K k ((mm + esz (f k).2.2.1 - 1 : Nat) : Int) x y nv (75 + o) K = x ∧ clS s o K k ((mm + esz (f k).2.2.1 - 1 : Nat) : Int) x y nv (76 + o) K = y := by
        unfold clS chS
        refine ⟨?_, ?_, ?_⟩
        · rw [mu_c (by omega), mu_c (by omega), mu_c (by omega), mu_c (by omega), mu_c (by omega), mu_s]
        · rw [mu_c (by omega), mu_c (by omega), mu_c (by omega), mu_c (by omega), mu_s]
        · rw [mu_c (by omega), mu_c (by omega), mu_c (by omega), mu_s]
      have F : Fr (CLF o) s (clS s o K k ((mm + esz (f k).2.2.1 - 1 : Nat) : Int) x y nv) := a1
      generalize clS s o K k ((mm + esz (f k).2.2.1 - 1 : Nat) : Int) x y nv = s1 at *
      have hA : ∀ a b, AN o s s1 a b := fun a b q j hq _ _ => F _ _ (by unfold CLF; omega)
      have put : ∀ T v, CN1 s o N L K T v → CN1 s1 o N L (K + 1) T v := fun T v c => CN1_put hN hL (by omega) c (hA _ _) a2 a3
      have hC1 : CLI s1 o N L i t now tt f r (k + 1) (K + 1) := by
        refine ⟨by rw [F _ _ (by unfold CLF; omega), h1], by rw [F _ _ (by unfold CLF; omega), h2], a7, NS_put ho hN h4 (fun q j hq => F _ _ (by unfold CLF; omega)) (fun j hj => a3 j (by omega)), fun g hg => ?_⟩
        obtain ⟨c1, c2, ⟨m', c3, c3', c3''⟩, c4, c5⟩ := h5 g hg
        refine ⟨?_, by rw [F _ _ (by unfold CLF; omega)]; exact put _ _ c2, ⟨m', by rw [F _ _ (by unfold CLF; omega), c3], CR_put c3' (hA _ _), c3''⟩, FRM_put hN hL (by omega) (hA _ _) a2 a3 (r g) (fun q hq => ⟨F _ _ (by rw [hr g hg] at hq; unfold CLF; omega), F _ _ (by rw [hr g hg] at hq; unfold CLF; omega), F _ _ (by unfold CLF; omega)⟩) c4, c5⟩
        by_cases hgk : g = k
        · subst hgk
          rw [if_pos (by omega), a5]
          have hfm : fmC (now g) (f g) = chc (f g).2.2.1 (tt g) (now g) := by
            unfold fmC
            rw [if_pos (b5.mpr hbit), htt g hg]
          rw [hfm]
          refine ⟨225 + K, rfl, ⟨K, x, y, mm, ⟨by omega, rfl⟩, ⟨a8.1, CR_put b3' (hA _ _), b3'', b3'''⟩, ⟨a8.2.1, CD_put (hA _ _) a2 K (tt g) x K (Nat.le_refl _) (Nat.le_refl _) x2⟩, a8.2.2, CD_put (hA _ _) a2 K (now g) y K (Nat.le_refl _) (Nat.le_refl _) y2⟩, ?_⟩
          rw [a4, ← hnv]
          exact BU_chc (CR_ini b3') (h4.1 _ mm b3' b3'' b3''') x3 y3
        · rw [a6 g hgk]
          have := put _ _ c1
          by_cases hgl : g < k
          · rw [if_pos hgl] at this
            rw [if_pos (by omega)]
            exact this
          · rw [if_neg hgl] at this
            rw [if_neg (by omega)]
            exact this
      obtain ⟨s2, K2, l3', l4', e1, e2, ⟨e3, e3'⟩, e4, e5, e6⟩ := ih (k + 1) (K + 1) s1 _ _ (by omega) hC1 (Or.inl (by omega))
      exact ⟨s2, K2, l3', l4', e1, e2, ⟨by omega, by omega⟩, fun z => (by rw [z k hk24] at hbit; cases hbit), F.tr e5, KP_tr ⟨a2, a3⟩ (by omega) e6⟩
    · have hbit' : t.testBit k = false := by
        cases hb : t.testBit k with
        | true => exact absurd hb hbit
        | false => rfl
      rw [cl_miss ho hk24 h2 ht2 hbit']
      have hC1 : CLI s o N L i t now tt f r (k + 1) K := by
        refine ⟨h1, h2, h3, h4, fun g hg => ?_⟩
        obtain ⟨c1, c2, c3, c4, c5⟩ := h5 g hg
        refine ⟨?_, c2, c3, c4, c5⟩
        by_cases hgk : g = k
        · subst hgk
          rw [if_neg (by omega)] at c1
          rw [if_pos (by omega)]
          have hfm : fmC (now g) (f g) = now g := by
            unfold fmC
            rw [if_neg (fun z => hbit (b5.mp z))]
          rw [hfm]
          exact c1
        · by_cases hgl : g < k
          · rw [if_pos hgl] at c1
            rw [if_pos (by omega)]
            exact c1
          · rw [if_neg hgl] at c1
            rw [if_neg (by omega)]
            exact c1
      obtain ⟨s2, K2, l3', l4', e1, e2, ⟨e3, e3'⟩, e4, e5, e6⟩ := ih (k + 1) K s l3 l4 (by omega) hC1 (hcap.imp (fun z => by omega) id)
      exact ⟨s2, K2, l3', l4', e1, e2, ⟨e3, by omega⟩, e4, e5, e6⟩
theorem L_close {d o N L K i : Nat} {now : Nat → Jvm.Term} {stk : Nat → List Fm} {b : Bool} {gf : List Bool} {s : Mem} (hd : 2 ≤ d) (ho : o = 0 ∨ o = 26) (hN : N ≤ 225) (hL : L ≤ 24) (f : Nat → Fm) (tt : Nat → Jvm.Term) (r : Nat → List Fm) (hst : ∀ g, g < 24 → stk g = f g :: r g) (htt : ∀ g, g < 24 → (f g).2.1 = some (tt g)) (hcap : b = true → K + 24 ≤ 840) (h : LGS s o N L K (i + 1) now stk (b :: gf)) :
    ∃ (s' : Mem) (K' : Nat), Zc d 108 [aR 137, aR (58 + o)] s = rV s' ∧ LGS s' o N L K' i (fun g => fmC (now g) (f g)) r gf ∧ K ≤ K' ∧ K' ≤ K + 24 ∧ (b = false → K' = K) ∧ Fr (LWF o) s s' ∧ KP o K s s' := by
  obtain ⟨d, rfl⟩ : ∃ e, d = e + 1 := ⟨d - 1, by omega⟩
  obtain ⟨h1, h2, h3, h4, h5, ⟨t, h6, h6'⟩, h7, h8, h9⟩ := h
  have hi3 : i < 3 := by omega
  rw [cl_start hi3 h1]
  have hr : ∀ g, g < 24 → (r g).length = i := fun g hg => by
    have := (h9 g hg).1
    rw [hst g hg, List.length_cons] at this
    omega
  have hno : b = false → ∀ g, g < 24 → t.testBit g = false := fun hb g hg => by
    obtain ⟨c1, ⟨c2, c3, c4⟩, c5⟩ := h9 g hg
    rw [hst g hg] at c4 c5
    rw [h6] at c4
    cases hbt : t.testBit g with
    | false => rfl
    | true =>
      have := c5.1 (c4.1.mpr (tb_nat.mpr hbt))
      rw [hb] at this
      cases this
  have g0 : ∀ k j, k ≠ 137 → mu s 137 9 i k j = s k j := fun k j hk => mu_c hk
  have F0 : Fr (LWF o) s (mu s 137 9 i) := (Fr.rf s).mu (Or.inl ⟨rfl, Or.inl rfl⟩)
  have t0 : mu s 137 9 i 137 10 = t := by rw [mu_i (by decide), h6]
  have d0 : mu s 137 9 i 137 9 = i := mu_s
  generalize mu s 137 9 i = s0 at *
  have hA : ∀ a b, AN o s s0 a b := fun a b => LW_AN ho F0
  have hcC : ∀ c j, 74 ≤ c → c ≤ 76 → j < K → s0 (c + o) j = s (c + o) j := fun c j h1 h2 _ => g0 _ _ (by omega)
  have hn : ∀ j, j < 225 + K → s0 138 j = s 138 j := fun j _ => g0 _ _ (by decide)
  have hC : CLI s0 o N L i t now tt f r 0 K := by
    refine ⟨d0, t0, by rw [g0 _ _ (by omega), h4], NS_put ho hN h8 (fun k j hk => g0 _ _ (by omega)) (fun j _ => g0 _ _ (by decide)), fun g hg => ?_⟩
    obtain ⟨c1, ⟨c2, c3, c4⟩, c5⟩ := h9 g hg
    rw [hst g hg] at c3 c4
    obtain ⟨x1, ⟨m, x2, x3, x4⟩, x5, x6⟩ := c3
    rw [hr g hg] at x1 x2 x5
    rw [if_neg (by omega)]
    refine ⟨by rw [g0 _ _ (by decide)]; exact CN1_put hN hL (Nat.le_refl _) c2 (hA _ _) hcC hn, by rw [g0 _ _ (by omega)]; exact CN1_put hN hL (Nat.le_refl _) (x5 _ (htt g hg)) (hA _ _) hcC hn, ⟨m, by rw [g0 _ _ (by decide), x2], CR_put x3 (hA _ _), x4⟩, FRM_put hN hL (Nat.le_refl _) (hA _ _) hcC hn (r g) (fun q hq => ⟨g0 _ _ (by omega), g0 _ _ (by omega), g0 _ _ (by decide)⟩) x6, ?_⟩
    rw [h6] at c4
    exact c4.1.trans tb_nat
  obtain ⟨s1, K', l3, l4, e1, e2, ⟨e3, e3'⟩, e4, e5, e6⟩ := lc_loop (d := d) (by omega) ho hN hL hi3 h6' hr htt 24 0 K s0 aU aU rfl hC (by
    cases b with
    | true => exact Or.inl (hcap rfl)
    | false => exact Or.inr ⟨h5, hno rfl⟩)
  obtain ⟨f1, f2, f3, f4, f5⟩ := e2
  obtain ⟨u, u1, u2⟩ := h7 i (by omega)
  have tb1 : s1 149 i = u := by rw [e5 _ _ (by unfold CLF; omega), g0 _ _ (by decide), u1]
  have hor := b_or h6' u2
  rw [e1, cl_end ho hi3 f1 f2 tb1, hor]
  have F1 : Fr (LWF o) s s1 := F0.tr (e5.mono (fun k j h => by unfold CLF at h; unfold LWF; omega))
  have q0 : ∀ k j, k ≠ 137 → mu s1 137 10 ((t ||| u : Nat) : Int) k j = s1 k j := fun k j hk => mu_c hk
  have F2 : Fr (LWF o) s (mu s1 137 10 ((t ||| u : Nat) : Int)) := F1.mu (Or.inl ⟨rfl, Or.inr rfl⟩)
  have t2 : mu s1 137 10 ((t ||| u : Nat) : Int) 137 10 = ((t ||| u : Nat) : Int) := mu_s
  have d2 : mu s1 137 10 ((t ||| u : Nat) : Int) 137 9 = i := by rw [mu_i (by decide), f1]
  generalize mu s1 137 10 ((t ||| u : Nat) : Int) = s2 at *
  have hA2 : ∀ a b, AN o s1 s2 a b := fun a b k j hk _ _ => q0 _ _ (by omega)
  have hcC2 : ∀ c j, 74 ≤ c → c ≤ 76 → j < K' → s2 (c + o) j = s1 (c + o) j := fun c j h1 h2 _ => q0 _ _ (by omega)
  have hn2 : ∀ j, j < 225 + K' → s2 138 j = s1 138 j := fun j _ => q0 _ _ (by decide)
  have hK' : K' ≤ 840 := by
    cases b with
    | true => have := hcap rfl; omega
    | false => rw [e4 (hno rfl)]; exact h5
  refine ⟨s2, K', rfl, ⟨d2, by omega, by simpa using h3, by rw [q0 _ _ (by omega), f3], hK', ⟨_, t2, Nat.or_lt_two_pow h6' u2⟩, fun q hq => ?_, NS_put ho hN f4 (fun k j hk => q0 _ _ (by omega)) (fun j _ => q0 _ _ (by decide)), fun g hg => ?_⟩, e3, by omega, fun hb => e4 (hno hb), F2, KP_tr (KP_tr ⟨hcC, hn⟩ (Nat.le_refl _) e6) e3 ⟨hcC2, hn2⟩⟩
  · have : s2 149 q = s 149 q := by rw [q0 _ _ (by decide), e5 _ _ (by unfold CLF; omega), g0 _ _ (by decide)]
    rw [this]
    exact h7 q (by omega)
  · obtain ⟨c1, c2, c3, c4, c5⟩ := f5 g hg
    rw [if_pos hg] at c1
    obtain ⟨y1, ⟨y2, y3, y4⟩, y5⟩ := h9 g hg
    rw [hst g hg] at y4 y5
    refine ⟨hr g hg, ⟨by rw [q0 _ _ (by decide)]; exact CN1_put hN hL (Nat.le_refl _) c1 (hA2 _ _) hcC2 hn2, FRM_put hN hL (Nat.le_refl _) (hA2 _ _) hcC2 hn2 (r g) (fun q hq => ⟨q0 _ _ (by have := hr g hg; omega), q0 _ _ (by have := hr g hg; omega), q0 _ _ (by decide)⟩) c4, ?_⟩, y5.2⟩
    refine TFR_put (r g) _ _ (fun q hq => by rw [q0 _ _ (by decide), e5 _ _ (by unfold CLF; omega), g0 _ _ (by decide)]) ?_ y4.2
    rw [hr g hg, u1, h6, t2, tb_nat, tb_nat, tb_nat, Nat.testBit_or, Bool.or_eq_true]
