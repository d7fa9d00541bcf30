-- what blanks and digits are
theorem cA_in {T : Tx} {j : Nat} (h : 0 ≤ cA T j) : j < T.2 := by
  unfold cA at h
  split at h
  next q => exact q
  next => omega
theorem cA_lt {T : Tx} {j : Nat} (h : j < T.2) : cA T j = T.1 j := if_pos h
theorem cA_end {T : Tx} {j : Nat} (h : T.2 ≤ j) : cA T j = -1 := if_neg (by omega)
theorem skF_le {T : Tx} : ∀ (f j : Nat), j ≤ skF T f j ∧ skF T f j ≤ j + f := by
  intro f
  induction f with
  | zero => intro j; exact ⟨Nat.le_refl _, Nat.le_refl _⟩
  | succ f ih =>
    intro j
    unfold skF
    split
    · have := ih (j + 1); omega
    · omega
theorem sk_ge (T : Tx) (j : Nat) : j ≤ sk T j := by rw [sk_def]; exact (skF_le _ j).1
theorem sk_le (T : Tx) {j : Nat} (h : j ≤ T.2) : sk T j ≤ T.2 := by
  have := (skF_le (T := T) (T.2 - j) j).2
  rw [sk_def]
  omega
theorem sk_id {T : Tx} {j : Nat} (h : ¬ cA T j = 32) : sk T j = j := by
  rw [sk_def]
  cases hf : T.2 - j with
  | zero => rfl
  | succ f => unfold skF; rw [if_neg h]
theorem sk_next {T : Tx} {j : Nat} (h : cA T j = 32) : sk T j = sk T (j + 1) := by
  have hlt : j < T.2 := cA_in (by omega)
  rw [sk_def, sk_def]
  obtain ⟨f, hf⟩ : ∃ f, T.2 - j = f + 1 := ⟨T.2 - j - 1, by omega⟩
  rw [hf, show T.2 - (j + 1) = f by omega]
  show (if cA T j = 32 then skF T f (j + 1) else j) = _
  rw [if_pos h]
theorem sk_not (T : Tx) : ∀ (k j : Nat), T.2 - j = k → ¬ cA T (sk T j) = 32 := by
  intro k
  induction k with
  | zero =>
    intro j h
    have e : cA T j = -1 := cA_end (by omega)
    rw [sk_id (by omega)]
    omega
  | succ k ih =>
    intro j h
    by_cases hc : cA T j = 32
    · rw [sk_next hc]
      exact ih (j + 1) (by omega)
    · rw [sk_id hc]
      exact hc
theorem sk_n (T : Tx) (j : Nat) : ¬ cA T (sk T j) = 32 := sk_not T _ j rfl
theorem sk_sk (T : Tx) (j : Nat) : sk T (sk T j) = sk T j := sk_id (sk_n T j)
theorem nEF_le {T : Tx} : ∀ (f j : Nat), j ≤ nEF T f j ∧ nEF T f j ≤ j + f := by
  intro f
  induction f with
  | zero => intro j; exact ⟨Nat.le_refl _, Nat.le_refl _⟩
  | succ f ih =>
    intro j
    unfold nEF
    split
    · have := ih (j + 1); omega
    · omega
theorem nE_ge (T : Tx) (j : Nat) : j ≤ nE T j := by rw [nE_def]; exact (nEF_le _ j).1
theorem nE_le (T : Tx) {j : Nat} (h : j ≤ T.2) : nE T j ≤ T.2 := by
  have := (nEF_le (T := T) (T.2 - j) j).2
  rw [nE_def]
  omega
theorem nE_id {T : Tx} {j : Nat} (h : ¬ isD (cA T j)) : nE T j = j := by
  rw [nE_def]
  cases hf : T.2 - j with
  | zero => rfl
  | succ f => unfold nEF; rw [if_neg h]
theorem nE_next {T : Tx} {j : Nat} (h : isD (cA T j)) : nE T j = nE T (j + 1) := by
  have hlt : j < T.2 := cA_in (by have := h.1; omega)
  rw [nE_def, nE_def]
  obtain ⟨f, hf⟩ : ∃ f, T.2 - j = f + 1 := ⟨T.2 - j - 1, by omega⟩
  rw [hf, show T.2 - (j + 1) = f by omega]
  show (if isD (cA T j) then nEF T f (j + 1) else j) = _
  rw [if_pos h]
theorem nE_in (T : Tx) : ∀ (k p : Nat), p + k < nE T p → isD (cA T (p + k)) := by
  intro k
  induction k with
  | zero =>
    intro p h
    by_cases hc : isD (cA T p)
    · exact hc
    · rw [nE_id hc] at h; omega
  | succ k ih =>
    intro p h
    by_cases hc : isD (cA T p)
    · rw [nE_next hc] at h
      have := ih (p + 1) (by omega)
      rw [show p + (k + 1) = p + 1 + k by omega]
      exact this
    · rw [nE_id hc] at h; omega
theorem nE_stop' (T : Tx) : ∀ (k p : Nat), T.2 - p = k → ¬ isD (cA T (nE T p)) := by
  intro k
  induction k with
  | zero =>
    intro p h
    have e : cA T p = -1 := cA_end (by omega)
    have h2 : ¬ isD (cA T p) := by rw [e]; decide
    rw [nE_id h2]
    exact h2
  | succ k ih =>
    intro p h
    by_cases hc : isD (cA T p)
    · rw [nE_next hc]
      exact ih (p + 1) (by omega)
    · rw [nE_id hc]
      exact hc
theorem nE_stop (T : Tx) (p : Nat) : ¬ isD (cA T (nE T p)) := nE_stop' T _ p rfl
theorem nV_in (T : Tx) (p : Nat) : ∀ k, p + k ≤ nE T p → 0 ≤ nV T p k ∧ nV T p k < 10 ^ k := by
  intro k
  induction k with
  | zero => intro _; exact ⟨Int.le_refl _, by show (0 : Int) < 10 ^ 0; decide⟩
  | succ k ih =>
    intro h
    obtain ⟨h1, h2⟩ := ih (by omega)
    have h3 := nE_in T k p (by omega)
    have e : (10 : Int) ^ (k + 1) = 10 * 10 ^ k := by rw [Int.pow_succ]; omega
    rw [e]
    show 0 ≤ 10 * nV T p k + cA T (p + k) - 48 ∧ 10 * nV T p k + cA T (p + k) - 48 < 10 * 10 ^ k
    have := h3.1; have := h3.2
    omega
-- what has changed
def Fr (S : Nat → Nat → Prop) (s s' : Mem) : Prop := ∀ k j, ¬ S k j → s' k j = s k j
theorem Fr.rf {S : Nat → Nat → Prop} (s : Mem) : Fr S s s := fun _ _ _ => rfl
theorem Fr.tr {S : Nat → Nat → Prop} {a b c : Mem} (h : Fr S a b) (g : Fr S b c) : Fr S a c := fun k j hn => (g k j hn).trans (h k j hn)
theorem Fr.mu {S : Nat → Nat → Prop} {a b : Mem} {k j : Nat} {v : Int} (h : Fr S a b) (hs : S k j) : Fr S a (mu b k j v) := fun q i hn => by
  show (if q = k ∧ i = j then v else b q i) = a q i
  rw [if_neg (fun z => hn (by rw [z.1, z.2]; exact hs))]
  exact h q i hn
theorem Fr.mono {S S' : Nat → Nat → Prop} {a b : Mem} (h : Fr S a b) (hs : ∀ k j, S k j → S' k j) : Fr S' a b := fun k j hn => h k j (fun z => hn (hs k j z))
theorem mu_mu {s : Mem} {k j : Nat} {v v' : Int} : mu (mu s k j v) k j v' = mu s k j v' := by
  funext a b
  unfold mu
  split
  · rfl
  · rfl
theorem mu_self {s : Mem} {k j : Nat} : mu s k j (s k j) = s := by
  funext a b
  unfold mu
  split
  next h => rw [h.1, h.2]
  · rfl
theorem mu_eq {s : Mem} {k j : Nat} {v : Int} (h : s k j = v) : mu s k j v = s := by rw [← h]; exact mu_self
