/-- where the token at p ends -/
noncomputable def tE (T : Tx) (p : Nat) : Nat := if isD (cA T p) then nE T p else if cA T p = 60 ∧ cA T (p + 1) = 61 then p + 2 else p + 1
/-- from where on the token k is sought, and where it is -/
noncomputable def tQ (T : Tx) : Nat → Nat
  | 0 => 0
  | k + 1 => tE T (sk T (tQ T k))
noncomputable def tP (T : Tx) (k : Nat) : Nat := sk T (tQ T k)
theorem tE_gt {T : Tx} {p : Nat} (h : p < T.2) : p < tE T p ∧ tE T p ≤ T.2 := by
  unfold tE
  split
  next hd =>
    rw [nE_next hd]
    have := nE_ge T (p + 1)
    have := nE_le T (show p + 1 ≤ T.2 by omega)
    omega
  next hd =>
    split
    next ha =>
      have : p + 1 < T.2 := cA_in (by omega)
      omega
    next => omega
/-- m letters of the token k at p are read -/
def PT (s : Mem) (T : Tx) (k p m : Nat) : Prop := s 112 k = p ∧ (isD (cA T p) → s 113 k = min (nV T p m) 65536 ∧ s 111 k = if m ≤ 5 ∧ nV T p m ≤ 65535 then 2 else 1) ∧ (¬ isD (cA T p) → s 111 k = if m = 2 then 3 else cA T p)
theorem PT_gro {s : Mem} {T : Tx} {k p m : Nat} (h1 : isD (cA T p)) (h2 : isD (cA T (p + m))) (h3 : 0 ≤ nV T p m) (h : PT s T k p m) : PT (tGro s k (cA T (p + m)) ((p + m : Nat) : Int)) T k p (m + 1) := by
  obtain ⟨a1, a2, -⟩ := h
  obtain ⟨b1, b2⟩ := a2 h1
  have e : nV T p (m + 1) = 10 * nV T p m + cA T (p + m) - 48 := rfl
  have hm : min (s 113 k * 10 + cA T (p + m) - 48) 65536 = min (nV T p (m + 1)) 65536 := by
    rw [b1, e]
    omega
  have h5 : ((p + m : Nat) : Int) - s 112 k = m := by rw [a1]; omega
  unfold tGro
  rw [hm, h5]
  by_cases hc : min (nV T p (m + 1)) 65536 > 65535 ∨ (m : Int) ≥ 5
  · rw [if_pos hc]
    refine ⟨by rw [mu_c (by decide), mu_c (by decide), a1], fun _ => ⟨by rw [mu_c (by decide), mu_s], ?_⟩, fun z => absurd h1 z⟩
    rw [mu_s, if_neg (by omega)]
  · rw [if_neg hc]
    refine ⟨by rw [mu_c (by decide), a1], fun _ => ⟨by rw [mu_s], ?_⟩, fun z => absurd h1 z⟩
    rw [mu_c (by decide), b2, if_pos (by omega), if_pos (by omega)]
theorem PT_beg {s : Mem} {T : Tx} {k i : Nat} : PT (tBeg s k (cA T i) i) T k i 1 := by
  unfold tBeg
  refine ⟨by rw [mu_c (by decide), mu_c (by decide), mu_c (by decide), mu_s], fun z => ⟨?_, ?_⟩, fun z => ?_⟩
  · have e : nV T i 1 = cA T i - 48 := by
      show 10 * 0 + cA T (i + 0) - 48 = _
      rw [Nat.add_zero]
      omega
    rw [mu_c (by decide), mu_s, e]
    omega
  · have e : nV T i 1 = cA T i - 48 := by
      show 10 * 0 + cA T (i + 0) - 48 = _
      rw [Nat.add_zero]
      omega
    rw [mu_c (by decide), mu_c (by decide), mu_s, if_pos z, if_pos ⟨by decide, by rw [e]; omega⟩]
  · rw [mu_c (by decide), mu_c (by decide), mu_s, if_neg z, if_neg (by decide)]
theorem PT_put {s s' : Mem} {T : Tx} {k p m : Nat} (f : ∀ q, q = 112 ∨ q = 111 ∨ q = 113 → s' q k = s q k) (h : PT s T k p m) : PT s' T k p m := by
  unfold PT
  rw [f _ (Or.inl rfl), f _ (Or.inr (Or.inl rfl)), f _ (Or.inr (Or.inr rfl))]
  exact h
/-- i letters are read -/
def SI (s : Mem) (T : Tx) (i u : Nat) : Prop := s 110 3 = u ∧ u ≤ i ∧ (∀ k, k < u → tP T k < i ∧ PT s T k (tP T k) (min (tE T (tP T k)) i - tP T k)) ∧ (i ≤ tQ T u ∨ (tQ T u < i ∧ cA T (i - 1) = 32 ∧ sk T i = tP T u))
theorem tQ_up {T : Tx} {u : Nat} (h : ∀ k, k < u → tP T k < T.2) : ∀ k, k < u → tE T (tP T k) ≤ tQ T u := by
  induction u with
  | zero => exact fun k hk => by omega
  | succ u ih =>
    intro k hk
    by_cases e : k = u
    · subst e
      exact Nat.le_refl _
    · have h1 := ih (fun j hj => h j (by omega)) k (by omega)
      have h2 := (tE_gt (h u (by omega))).1
      have h3 := sk_ge T (tQ T u)
      have h4 : tQ T (u + 1) = tE T (tP T u) := rfl
      have h5 : tP T u = sk T (tQ T u) := rfl
      omega
