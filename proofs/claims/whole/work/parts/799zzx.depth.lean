/-! how deep a type can be -/
theorem pFs_dpt {T : Tx} {D : Nat} {F : Nat → PR Jvm.Term} (hF : ∀ p q t, F p = .ok (t, q) → dpt t + 1 ≤ D) : ∀ (f p q : Nat) (fs : Jvm.Term), pFs T F f p = .ok (fs, q) → dpt fs + 1 ≤ D
  | 0, p, q, fs, h => by unfold pFs at h; exact (nomatch h)
  | f + 1, p, q, fs, h => by
    rw [pFs_h] at h
    obtain ⟨nb, p3, a1, h⟩ := bd_inv h
    obtain ⟨t, p4, a2, h⟩ := bd_inv h
    have ht := hF _ _ _ a2
    split at h
    next h44 =>
      obtain ⟨r, p5, a3, h⟩ := bd_inv h
      cases h
      have hr := pFs_dpt hF f _ _ r a3
      simp only [fCons, dpt]
      omega
    next =>
      split at h
      next h125 =>
        cases h
        simp only [fCons, dpt, tNil]
        omega
      next => exact (nomatch h)
theorem pTy_dpt {T : Tx} : ∀ (D p q : Nat) (t : Jvm.Term), pTy T D p = .ok (t, q) → dpt t + 1 ≤ D
  | 0, p, q, t, h => by unfold pTy at h; exact (nomatch h)
  | D + 1, p, q, t, h => by
    have hV : ∀ n t, 1 ≤ n → n ≤ 4 → dpt t + 1 ≤ D + 1 → dpt (tV n t) + 1 ≤ D + 1 := fun n t h1 h2 h3 => h3
    unfold pTy at h
    split at h
    next h85 =>
      have hpl : p < T.2 := cA_in (by omega)
      have h0 := sk_adv (T := T) (p := p + 1) (by omega)
      split at h
      · obtain ⟨w, p1, a1, h⟩ := bd_inv h
        obtain ⟨b1, b2, b3, b4⟩ := pNu_adv (by decide) a1
        exact (pVec_adv (P := fun t => dpt t + 1 ≤ D + 1) hV _ (tU w) p1 q t b4.2 (by show 0 + 1 ≤ D + 1; omega) h).1
      · exact (pVec_adv (P := fun t => dpt t + 1 ≤ D + 1) hV _ (tU 0) _ q t h0.2 (by show 0 + 1 ≤ D + 1; omega) h).1
    next =>
      split at h
      next h123 =>
        have hpl : p < T.2 := cA_in (by omega)
        have h0 := sk_adv (T := T) (p := p + 1) (by omega)
        obtain ⟨fs, p1, a1, h⟩ := bd_inv h
        obtain ⟨-, b4⟩ := pFs_adv (D := D) (fun p q t h => pTy_adv D p q t h) _ _ _ _ a1
        have hd := pFs_dpt (D := D) (fun p q t h => pTy_dpt D p q t h) _ _ _ _ a1
        exact (pVec_adv (P := fun t => dpt t + 1 ≤ D + 1) hV _ (tB fs) p1 q t b4.2 (by simp only [tB, dpt]; omega) h).1
      next => exact (nomatch h)
theorem pItem_iC {T : Tx} {p q : Nat} {i : It} (h : pItem T p = .ok (i, q)) : iC i := by
  unfold pItem at h
  obtain ⟨n, p1, a1, h⟩ := bd_inv h
  split at h
  · obtain ⟨u, p2, a2, h⟩ := bd_inv h
    obtain ⟨e, p3, a3, h⟩ := bd_inv h
    obtain ⟨u2, p4, a4, h⟩ := bd_inv h
    cases h
    intro z
    cases z
  next h78 =>
    obtain ⟨u, p2, a2, h⟩ := bd_inv h
    obtain ⟨t, p3, a3, h⟩ := bd_inv h
    obtain ⟨u2, p4, a4, h⟩ := bd_inv h
    cases h
    intro _
    have := pTy_dpt _ _ _ _ a3
    show dpt t ≤ 2
    omega
theorem iC_no {i : It} (h : ¬ i.1 = 4) : iC i := fun z => absurd z h
theorem pIts_iC {T : Tx} : ∀ (f : Nat) (st : List Nat) (p : Nat) (its : List It), pIts T f st p = .ok its → ∀ i, i ∈ its → iC i
  | 0, st, p, its, h => by unfold pIts at h; exact (nomatch h)
  | f + 1, st, p, its, h => by
    have hc : ∀ {i : It} {r : List It}, iC i → (∀ j, j ∈ r → iC j) → ∀ j, j ∈ i :: r → iC j := fun h1 h2 j hj => (List.mem_cons.mp hj).elim (fun z => z ▸ h1) (h2 j)
    rw [pIts_s] at h
    by_cases h1 : st ≠ [] ∧ cA T p = 125
    · rw [if_pos h1] at h
      cases st with
      | nil => exact absurd rfl h1.1
      | cons b st =>
        split at h
        next h2 =>
          obtain ⟨u, p2, a2, h⟩ := bd_inv h
          obtain ⟨r, a3, h⟩ := bi_inv h
          cases h
          exact hc (iC_no (by show ¬ (2 : Nat) = 4; decide)) (pIts_iC f _ p2 r a3)
        next h2 =>
          obtain ⟨r, a3, h⟩ := bi_inv h
          cases h
          exact hc (iC_no (by show ¬ (3 : Nat) = 4; decide)) (pIts_iC f _ _ r a3)
    · rw [if_neg h1] at h
      by_cases h2 : st = [] ∧ cA T p < 0
      · rw [if_pos h2] at h
        cases h
        exact fun i hi => (nomatch hi)
      · rw [if_neg h2] at h
        by_cases h3 : cA T p = 63 ∧ st.length < 3
        · rw [if_pos h3] at h
          obtain ⟨e, p1, a1, h⟩ := bd_inv h
          obtain ⟨u, p2, a2, h⟩ := bd_inv h
          obtain ⟨r, a3, h⟩ := bi_inv h
          cases h
          exact hc (iC_no (by show ¬ (1 : Nat) = 4; decide)) (pIts_iC f _ p2 r a3)
        · rw [if_neg h3] at h
          by_cases h4 : isN (cA T p)
          · rw [if_pos h4] at h
            obtain ⟨i, p1, a1, h⟩ := bd_inv h
            obtain ⟨r, a3, h⟩ := bi_inv h
            cases h
            obtain ⟨b1, b2, b3⟩ := pConn_adv a1
            exact hc (iC_no (by omega)) (pIts_iC f _ p1 r a3)
          · rw [if_neg h4] at h
            by_cases h5 : st = [] ∧ (cA T p = 73 ∨ cA T p = 79 ∨ cA T p = 87 ∨ cA T p = 82 ∨ cA T p = 78)
            · rw [if_pos h5] at h
              obtain ⟨i, p1, a1, h⟩ := bd_inv h
              obtain ⟨r, a3, h⟩ := bi_inv h
              cases h
              exact hc (pItem_iC a1) (pIts_iC f _ p1 r a3)
            · rw [if_neg h5] at h
              exact (nomatch h)
theorem nrm_mem : ∀ (its : List It) (st : List Nat) (i : It), i ∈ nrm st its → i ∈ its ∨ i.1 = 2
  | [], _, _, h => Or.inl h
  | j :: r, st, i, h => by
    have go : ∀ st', i ∈ j :: nrm st' r → i ∈ j :: r ∨ i.1 = 2 := fun st' h => (List.mem_cons.mp h).elim (fun z => Or.inl (z ▸ List.mem_cons_self)) (fun z => (nrm_mem r st' i z).imp (List.mem_cons_of_mem _) id)
    rw [nrm] at h
    split at h
    · split at h
      · exact (List.mem_cons.mp h).elim (fun z => Or.inr (by rw [z])) (go _)
      · exact go _ h
    · split at h
      · exact go _ h
      · split at h <;> exact go _ h
theorem nrm_iC {T : Tx} {its : List It} (h : pAll T = .ok its) : ∀ i, i ∈ nrm [] its → iC i := fun i hi => by
  have h' : pIts T (T.2 + 1) [] (sk T 0) = .ok its := h
  rcases nrm_mem its [] i hi with z | z
  · exact pIts_iC _ _ _ _ h' i z
  · exact iC_no (by omega)
/-- all signals of the text have a kind below 4 or are nodes -/
theorem nrm_k4 {T : Tx} {its : List It} (h : pAll T = .ok its) : ∀ i, i ∈ nrm [] its → i.1 = 4 → i.2.2.2.1 < 4 := fun i hi h4 => by
  have h' : pIts T (T.2 + 1) [] (sk T 0) = .ok its := h
  rcases nrm_mem its [] i hi with z | z
  · obtain ⟨a1, -, -⟩ := pIts_ok (T.2 + 1) [] _ its (sk_le T (Nat.zero_le _)) (fun b hb => (nomatch hb)) h'
    rcases a1 i z with ⟨a, -⟩ | ⟨a, -⟩ | a | a | ⟨a, b, -⟩ | ⟨a, -⟩
    · omega
    · omega
    · omega
    · omega
    · exact b
    · omega
  · omega
