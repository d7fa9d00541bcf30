theorem tGro_f {s : Mem} {k q a : Nat} {c p : Int} (h : (q ≠ 111 ∧ q ≠ 113) ∨ a ≠ k) : tGro s k c p q a = s q a := by
  have hm : ∀ (s : Mem) (r : Nat) (v : Int), r = 111 ∨ r = 113 → mu s r k v q a = s q a := fun s r v hr => by
    by_cases e : a = k
    · exact mu_c (by omega)
    · exact mu_i e
  unfold tGro
  split
  · rw [hm _ _ _ (Or.inl rfl), hm _ _ _ (Or.inr rfl)]
  · exact hm _ _ _ (Or.inr rfl)
theorem tBeg_f {s : Mem} {k q a : Nat} {c p : Int} (hq : q ≠ 110) (h : a ≠ k) : tBeg s k c p q a = s q a := by
  unfold tBeg
  rw [mu_c hq, mu_i h, mu_i h, mu_i h]
/-- the letter before belongs to the last token -/
theorem SI_lst {s : Mem} {T : Tx} {i u : Nat} (hi : i < T.2) (h : SI s T i u) (hl : isD (lst T.1 i) ∨ lst T.1 i = 60) : ∃ v, u = v + 1 ∧ tP T v < i ∧ i ≤ tE T (tP T v) ∧ lst T.1 i = cA T (i - 1) := by
  obtain ⟨h1, h2, h3, h4⟩ := h
  have h0 : 0 < i := by
    refine Decidable.byContradiction fun z => ?_
    unfold lst at hl
    rw [if_neg z] at hl
    omega
  have e : lst T.1 i = cA T (i - 1) := by
    unfold lst
    rw [if_pos h0, cA_lt (by omega)]
  rw [e] at hl ⊢
  have h5 : i ≤ tQ T u := by
    rcases h4 with h4 | ⟨-, h4, -⟩
    · exact h4
    · omega
  cases u with
  | zero =>
    have : tQ T 0 = 0 := rfl
    omega
  | succ v => exact ⟨v, rfl, (h3 v (by omega)).1, h5, rfl⟩
theorem SI_pre {s : Mem} {T : Tx} {i u : Nat} (hi : i < T.2) (hn : T.2 ≤ 200) (h : SI s T i u) : (isD (lst T.1 i) ∨ lst T.1 i = 60) → 1 ≤ u ∧ (isD (lst T.1 i) → (-48 ≤ s 113 (u - 1) ∧ s 113 (u - 1) ≤ 65536) ∧ 0 ≤ s 112 (u - 1) ∧ s 112 (u - 1) ≤ 200) := by
  intro hl
  obtain ⟨v, rfl, g1, g2, g3⟩ := SI_lst hi h hl
  refine ⟨by omega, fun hd => ?_⟩
  rw [Nat.add_sub_cancel]
  obtain ⟨p1, p2⟩ := h.2.2.1 v (by omega)
  obtain ⟨a1, a2, a3⟩ := p2
  have hm : min (tE T (tP T v)) i - tP T v = i - tP T v := by omega
  rw [hm] at a2
  rw [g3] at hd
  have hp : isD (cA T (tP T v)) := by
    refine Decidable.byContradiction fun z => ?_
    unfold tE at g2
    rw [if_neg z] at g2
    split at g2
    next ha =>
      by_cases e : i - 1 = tP T v
      · rw [e] at hd
        exact z hd
      · rw [show i - 1 = tP T v + 1 by omega, ha.2] at hd
        omega
    next =>
      rw [show i - 1 = tP T v by omega] at hd
      exact z hd
  have hE : tE T (tP T v) = nE T (tP T v) := if_pos hp
  have := (nV_in T (tP T v) (i - tP T v) (by omega)).1
  rw [(a2 hp).1, a1]
  omega
theorem SI_step {s : Mem} {T : Tx} {i u : Nat} (hi : i < T.2) (h : SI s T i u) : SI (tSt T.1 s i u).1 T (i + 1) (tSt T.1 s i u).2 := by
  have hL := SI_lst hi h
  obtain ⟨h1, h2, h3, h4⟩ := h
  have hup := tQ_up (T := T) (u := u) (fun k hk => by have := (h3 k hk).1; omega)
  have ci : T.1 i = cA T i := (cA_lt hi).symm
  unfold tSt
  rw [ci]
  by_cases hA : i < tQ T u
  · cases u with
    | zero =>
      have : tQ T 0 = 0 := rfl
      omega
    | succ v =>
      have hQ : tQ T (v + 1) = tE T (tP T v) := rfl
      rw [hQ] at hA
      obtain ⟨p1, p2⟩ := h3 v (by omega)
      rw [show min (tE T (tP T v)) i - tP T v = i - tP T v by omega] at p2
      have hlo : ∀ k, k < v → tE T (tP T k) ≤ i := fun k hk => by
        have q1 := tQ_up (T := T) (u := v) (fun k hk => by have := (h3 k (by omega)).1; omega) k hk
        have q2 : tP T v = sk T (tQ T v) := rfl
        have q3 := sk_ge T (tQ T v)
        omega
      have hls : lst T.1 i = cA T (i - 1) := by
        unfold lst
        rw [if_pos (by omega), cA_lt (by omega)]
      rw [hls, Nat.add_sub_cancel]
      by_cases hd : isD (cA T (tP T v))
      · have hE : tE T (tP T v) = nE T (tP T v) := if_pos hd
        have d1 := nE_in T (i - tP T v) (tP T v) (by omega)
        have d2 := nE_in T (i - 1 - tP T v) (tP T v) (by omega)
        have d3 := PT_gro hd d1 (nV_in T (tP T v) (i - tP T v) (by omega)).1 p2
        rw [show tP T v + (i - tP T v) = i by omega] at d1 d3
        rw [show tP T v + (i - 1 - tP T v) = i - 1 by omega] at d2
        rw [if_pos ⟨d1, d2⟩]
        dsimp only
        refine ⟨by rw [tGro_f (Or.inl (by decide)), h1], by show v + 1 ≤ i + 1; omega, fun k hk => ?_, Or.inl (by show i + 1 ≤ tE T (tP T v); omega)⟩
        by_cases e : k = v
        · subst e
          rw [show min (tE T (tP T k)) (i + 1) - tP T k = i - tP T k + 1 by omega]
          exact ⟨by omega, d3⟩
        · obtain ⟨k1, k2⟩ := h3 k (by omega)
          have := hlo k (by have : k < v + 1 := hk; omega)
          rw [show min (tE T (tP T k)) i = min (tE T (tP T k)) (i + 1) by omega] at k2
          exact ⟨by omega, PT_put (fun q _ => tGro_f (Or.inr e)) k2⟩
      · unfold tE at hA
        rw [if_neg hd] at hA
        split at hA
        next ha =>
          have ei : i = tP T v + 1 := by omega
          have hE : tE T (tP T v) = tP T v + 2 := by
            unfold tE
            rw [if_neg hd, if_pos ha]
          have c1 : cA T i = 61 := by rw [ei]; exact ha.2
          have c2 : cA T (i - 1) = 60 := by rw [ei]; exact ha.1
          rw [if_neg (by omega), if_pos ⟨c1, c2⟩]
          dsimp only
          refine ⟨by rw [mu_c (by decide), h1], by show v + 1 ≤ i + 1; omega, fun k hk => ?_, Or.inl (by show i + 1 ≤ tE T (tP T v); omega)⟩
          by_cases e : k = v
          · subst e
            rw [show min (tE T (tP T k)) (i + 1) - tP T k = 2 by omega]
            refine ⟨by omega, by rw [mu_c (by decide)]; exact p2.1, fun z => absurd z hd, fun _ => ?_⟩
            rw [mu_s, if_pos rfl]
          · obtain ⟨k1, k2⟩ := h3 k (by omega)
            have := hlo k (by have : k < v + 1 := hk; omega)
            rw [show min (tE T (tP T k)) i = min (tE T (tP T k)) (i + 1) by omega] at k2
            exact ⟨by omega, PT_put (fun q _ => mu_i e) k2⟩
        next => omega
  · have hsk : sk T i = tP T u := by
      rcases h4 with h4 | ⟨-, -, h4⟩
      · rw [show i = tQ T u by omega]
        rfl
      · exact h4
    have hno : ∀ v, u = v + 1 → i ≤ tE T (tP T v) → i = tE T (tP T v) := fun v hv hh => by
      subst hv
      have hQ : tQ T (v + 1) = tE T (tP T v) := rfl
      omega
    have n1 : ¬ (isD (cA T i) ∧ isD (lst T.1 i)) := by
      rintro ⟨z1, z2⟩
      obtain ⟨v, hv, g1, g2, g3⟩ := hL (Or.inl z2)
      have g4 := hno v hv g2
      rw [g3] at z2
      unfold tE at g4
      split at g4
      · rw [g4] at z1
        exact nE_stop T _ z1
      next hd =>
        split at g4
        next ha =>
          rw [show i - 1 = tP T v + 1 by omega, ha.2] at z2
          omega
        next =>
          rw [show i - 1 = tP T v by omega] at z2
          exact hd z2
    have n2 : ¬ (cA T i = 61 ∧ lst T.1 i = 60) := by
      rintro ⟨z1, z2⟩
      obtain ⟨v, hv, g1, g2, g3⟩ := hL (Or.inr z2)
      have g4 := hno v hv g2
      rw [g3] at z2
      unfold tE at g4
      split at g4
      next hd =>
        have := nE_in T (i - 1 - tP T v) (tP T v) (by omega)
        rw [show tP T v + (i - 1 - tP T v) = i - 1 by omega, z2] at this
        omega
      next hd =>
        split at g4
        next ha =>
          rw [show i - 1 = tP T v + 1 by omega, ha.2] at z2
          omega
        next ha =>
          rw [show i - 1 = tP T v by omega] at z2
          rw [show i = tP T v + 1 by omega] at z1
          exact ha ⟨z2, z1⟩
    rw [if_neg n1, if_neg n2]
    have hold : ∀ k, k < u → tP T k < i + 1 ∧ PT s T k (tP T k) (min (tE T (tP T k)) (i + 1) - tP T k) := fun k hk => by
      obtain ⟨k1, k2⟩ := h3 k hk
      have := hup k hk
      rw [show min (tE T (tP T k)) i = min (tE T (tP T k)) (i + 1) by omega] at k2
      exact ⟨by omega, k2⟩
    by_cases hb : cA T i = 32
    · rw [if_pos hb]
      exact ⟨h1, by show u ≤ i + 1; omega, hold, Or.inr ⟨by show tQ T u < i + 1; omega, by rw [Nat.add_sub_cancel]; exact hb, by rw [← sk_next hb]; exact hsk⟩⟩
    · rw [if_neg hb]
      rw [sk_id hb] at hsk
      have g := tE_gt hi
      dsimp only
      refine ⟨by unfold tBeg; rw [mu_s], by show u + 1 ≤ i + 1; omega, fun k hk => ?_, Or.inl ?_⟩
      · by_cases e : k = u
        · subst e
          rw [← hsk, show min (tE T i) (i + 1) - i = 1 by omega]
          exact ⟨by omega, PT_beg⟩
        · obtain ⟨k1, k2⟩ := hold k (by have : k < u + 1 := hk; omega)
          exact ⟨k1, PT_put (fun q hq => tBeg_f (by omega) e) k2⟩
      · show i + 1 ≤ tE T (tP T u)
        rw [← hsk]
        omega
