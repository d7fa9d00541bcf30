/-- an item as it can be read -/
def IG (i : It) : Prop := (i.1 = 0 ∧ ebd i.2.2.2.2.1 ∧ ebd i.2.2.2.2.2) ∨ (i.1 = 1 ∧ ebd i.2.2.2.2.2) ∨ i.1 = 2 ∨ i.1 = 3 ∨ (i.1 = 4 ∧ i.2.2.2.1 < 4 ∧ tgd true i.2.2.2.2.2 ∧ dpt i.2.2.2.2.2 ≤ 3) ∨ (i.1 = 5 ∧ ebd i.2.2.2.2.2)
theorem IG_iOK {i : It} (h : IG i) : iOK i := by
  unfold iOK
  rcases h with ⟨a, b, c⟩ | ⟨a, b⟩ | a | a | ⟨a, -, b, c⟩ | ⟨a, b⟩
  · exact ⟨fun z => by omega, fun _ => c, fun _ => b⟩
  · exact ⟨fun z => by omega, fun _ => b, fun z => by omega⟩
  · exact ⟨fun z => by omega, fun z => by omega, fun z => by omega⟩
  · exact ⟨fun z => by omega, fun z => by omega, fun z => by omega⟩
  · exact ⟨fun _ => by omega, fun z => by omega, fun z => by omega⟩
  · exact ⟨fun z => by omega, fun _ => b, fun z => by omega⟩
/-- items as they may stand behind open ?: which of them are in their second steps -/
def wfI : List Bool → List It → Prop
  | d, [] => d = []
  | d, i :: r => if i.1 = 1 then d.length < 3 ∧ wfI (false :: d) r else if i.1 = 2 then (∃ d', d = false :: d' ∧ wfI (true :: d') r) else if i.1 = 3 then (∃ b d', d = b :: d' ∧ wfI d' r) else wfI d r
theorem pItem_adv {T : Tx} {p q : Nat} {i : It} (h : pItem T p = .ok (i, q)) (hc : cA T p = 73 ∨ cA T p = 79 ∨ cA T p = 87 ∨ cA T p = 82 ∨ cA T p = 78) : (i.1 = 4 ∨ i.1 = 5) ∧ IG i ∧ adv T p q 1 := by
  have hpl : p < T.2 := cA_in (by omega)
  have h0 := sk_adv (T := T) (p := p + 1) (by omega)
  unfold pItem at h
  obtain ⟨n, p1, a1, h⟩ := bd_inv h
  obtain ⟨b1, b2⟩ := pNm_adv a1
  split at h
  · obtain ⟨u, p2, a2, h⟩ := bd_inv h
    obtain ⟨e, p3, a3, h⟩ := bd_inv h
    obtain ⟨u2, p4, a4, h⟩ := bd_inv h
    cases h
    have c1 := pTk_adv (by decide) a2
    obtain ⟨c2, c3⟩ := pEx_adv _ _ _ _ a3
    have c4 := pTk_adv (by decide) a4
    unfold adv at *
    exact ⟨Or.inr rfl, Or.inr (Or.inr (Or.inr (Or.inr (Or.inr ⟨rfl, c2⟩)))), by omega⟩
  next h78 =>
    obtain ⟨u, p2, a2, h⟩ := bd_inv h
    obtain ⟨t, p3, a3, h⟩ := bd_inv h
    obtain ⟨u2, p4, a4, h⟩ := bd_inv h
    cases h
    have c1 := pTk_adv (by decide) a2
    obtain ⟨⟨c2, c2'⟩, c3⟩ := pTy_adv _ _ _ _ a3
    have c4 := pTk_adv (by decide) a4
    have hk : itK (cA T p) < 4 := by
      unfold itK
      obtain h | h | h | h : cA T p = 73 ∨ cA T p = 79 ∨ cA T p = 87 ∨ cA T p = 82 := by omega
      all_goals (rw [h]; decide)
    unfold adv at *
    exact ⟨Or.inl rfl, Or.inr (Or.inr (Or.inr (Or.inr (Or.inl ⟨rfl, hk, c2, c2'⟩)))), by omega⟩
theorem pConn_adv {T : Tx} {p q : Nat} {i : It} (h : pConn T p = .ok (i, q)) : i.1 = 0 ∧ IG i ∧ adv T p q 5 := by
  unfold pConn at h
  obtain ⟨l, p1, a1, h⟩ := bd_inv h
  obtain ⟨u, p2, a2, h⟩ := bd_inv h
  obtain ⟨e, p3, a3, h⟩ := bd_inv h
  obtain ⟨u2, p4, a4, h⟩ := bd_inv h
  cases h
  obtain ⟨b1, b2⟩ := pRf_adv a1
  have b3 : adv T p1 p2 2 := by
    unfold pAr at a2
    split at a2
    next hh =>
      cases a2
      have hp : p1 + 1 < T.2 := cA_in (by omega)
      have := sk_adv (T := T) (p := p1 + 2) (by omega)
      unfold adv
      omega
    next => exact (nomatch a2)
  obtain ⟨b4, b5⟩ := pEx_adv _ _ _ _ a3
  have b6 := pTk_adv (by decide) a4
  unfold adv at *
  exact ⟨rfl, Or.inl ⟨rfl, b1, b4⟩, by omega⟩
def bS (st : List Nat) : List Bool := st.map fun b => decide (b ≠ 1)
theorem pIts_ok {T : Tx} : ∀ (f : Nat) (st : List Nat) (p : Nat) (its : List It), p ≤ T.2 → (∀ b, b ∈ st → b = 1 ∨ b = 2) → pIts T f st p = .ok its → (∀ i, i ∈ its → IG i) ∧ wfI (bS st) its ∧ 5 * isw its + 24 * p ≤ 24 * T.2
  | 0, st, p, its, hp, hst, h => by unfold pIts at h; exact (nomatch h)
  | f + 1, st, p, its, hp, hst, h => by
    rw [pIts_s] at h
    by_cases h1 : st ≠ [] ∧ cA T p = 125
    · rw [if_pos h1] at h
      have hpl : p < T.2 := cA_in (by omega)
      have h0 := sk_adv (T := T) (p := p + 1) (by omega)
      cases st with
      | nil => exact absurd rfl h1.1
      | cons b st =>
        have hst' : ∀ x, x ∈ st → x = 1 ∨ x = 2 := fun x hx => hst x (List.mem_cons_of_mem _ hx)
        split at h
        next h2 =>
          have hb : b = 1 := by have := h2.1; simpa using this
          have hql : sk T (p + 1) < T.2 := cA_in (by omega)
          have hq0 := sk_adv (T := T) (p := sk T (p + 1) + 1) (by omega)
          obtain ⟨u, p2, a2, h⟩ := bd_inv h
          obtain ⟨r, a3, h⟩ := bi_inv h
          cases h
          have c1 := pTk_adv (by decide) a2
          obtain ⟨d1, d2, d3⟩ := pIts_ok f (2 :: st) p2 r c1.2 (fun x hx => (List.mem_cons.mp hx).elim Or.inr (hst' x)) a3
          unfold adv at c1
          refine ⟨fun i hi => (List.mem_cons.mp hi).elim (fun z => by rw [z]; exact Or.inr (Or.inr (Or.inl rfl))) (d1 i), ?_, by show 5 * (1 + isw r) + 24 * p ≤ 24 * T.2; omega⟩
          show wfI (decide (b ≠ 1) :: bS st) _
          rw [hb]
          exact ⟨bS st, rfl, d2⟩
        next h2 =>
          obtain ⟨r, a3, h⟩ := bi_inv h
          cases h
          obtain ⟨d1, d2, d3⟩ := pIts_ok f st _ r h0.2 hst' a3
          refine ⟨fun i hi => (List.mem_cons.mp hi).elim (fun z => by rw [z]; exact Or.inr (Or.inr (Or.inr (Or.inl rfl)))) (d1 i), ⟨_, bS st, rfl, d2⟩, by show 5 * (1 + isw r) + 24 * p ≤ 24 * T.2; omega⟩
    · rw [if_neg h1] at h
      by_cases h2 : st = [] ∧ cA T p < 0
      · rw [if_pos h2] at h
        cases h
        rw [h2.1]
        exact ⟨fun i hi => (nomatch hi), rfl, by simp only [isw]; omega⟩
      · rw [if_neg h2] at h
        by_cases h3 : cA T p = 63 ∧ st.length < 3
        · rw [if_pos h3] at h
          have hpl : p < T.2 := cA_in (by omega)
          have h0 := sk_adv (T := T) (p := p + 1) (by omega)
          obtain ⟨e, p1, a1, h⟩ := bd_inv h
          obtain ⟨u, p2, a2, h⟩ := bd_inv h
          obtain ⟨r, a3, h⟩ := bi_inv h
          cases h
          obtain ⟨b1, b2⟩ := pEx_adv _ _ _ _ a1
          have b3 := pTk_adv (by decide) a2
          obtain ⟨d1, d2, d3⟩ := pIts_ok f (1 :: st) p2 r b3.2 (fun x hx => (List.mem_cons.mp hx).elim Or.inl (hst x)) a3
          unfold adv at *
          exact ⟨fun i hi => (List.mem_cons.mp hi).elim (fun z => by rw [z]; exact Or.inr (Or.inl ⟨rfl, b1⟩)) (d1 i), ⟨by unfold bS; rw [List.length_map]; exact h3.2, d2⟩, by show 5 * (1 + isw r) + 24 * p ≤ 24 * T.2; omega⟩
        · rw [if_neg h3] at h
          by_cases h4 : isN (cA T p)
          · rw [if_pos h4] at h
            obtain ⟨i, p1, a1, h⟩ := bd_inv h
            obtain ⟨r, a3, h⟩ := bi_inv h
            cases h
            obtain ⟨b1, b2, b3⟩ := pConn_adv a1
            obtain ⟨d1, d2, d3⟩ := pIts_ok f st p1 r b3.2 hst a3
            unfold adv at *
            refine ⟨fun j hj => (List.mem_cons.mp hj).elim (fun z => by rw [z]; exact b2) (d1 j), ?_, by simp only [isw, iw]; rw [if_pos b1]; omega⟩
            unfold wfI
            rw [if_neg (by omega), if_neg (by omega), if_neg (by omega)]
            exact d2
          · rw [if_neg h4] at h
            by_cases h5 : st = [] ∧ (cA T p = 73 ∨ cA T p = 79 ∨ cA T p = 87 ∨ cA T p = 82 ∨ cA T p = 78)
            · rw [if_pos h5] at h
              obtain ⟨i, p1, a1, h⟩ := bd_inv h
              obtain ⟨r, a3, h⟩ := bi_inv h
              cases h
              obtain ⟨b1, b2, b3⟩ := pItem_adv a1 h5.2
              obtain ⟨d1, d2, d3⟩ := pIts_ok f st p1 r b3.2 hst a3
              unfold adv at *
              refine ⟨fun j hj => (List.mem_cons.mp hj).elim (fun z => by rw [z]; exact b2) (d1 j), ?_, by simp only [isw, iw]; rw [if_neg (by omega)]; omega⟩
              unfold wfI
              rw [if_neg (by omega), if_neg (by omega), if_neg (by omega)]
              exact d2
            · rw [if_neg h5] at h
              exact (nomatch h)
