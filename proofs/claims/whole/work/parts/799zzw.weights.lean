/-! how long a text is, at least, by its steps -/
def wI : List It → Nat
  | [] => 0
  | i :: r => wgS i.1 + wI r
theorem wI_nrm : ∀ (its : List It) (st : List Nat), wI (nrm st its) = wI its
  | [], _ => rfl
  | i :: r, st => by
    rw [nrm]
    split
    · split
      · simp only [wI]
        rw [wI_nrm r]
        have : wgS 2 = 0 := by decide
        rw [this, Nat.zero_add]
      · simp only [wI]
        rw [wI_nrm r]
    · split
      · simp only [wI]
        rw [wI_nrm r]
      · split <;> (simp only [wI]; rw [wI_nrm r])
theorem wgX_cst : ∀ (its : List It) (env : EnvT) (sg : List Sg), wgX (cst env sg its) ≤ wI its
  | [], _, _ => Nat.le_refl _
  | i :: r, env, sg => by
    rw [cst]
    cases ck1 env sg i with
    | none => exact Nat.zero_le _
    | some y =>
      obtain ⟨env', sg', lo'⟩ := y
      have := wgX_cst r env' sg'
      show wgS i.1 + wgX (cst env' sg' r) ≤ wgS i.1 + wI r
      omega
theorem pIts_w {T : Tx} : ∀ (f : Nat) (st : List Nat) (p : Nat) (its : List It), p ≤ T.2 → pIts T f st p = .ok its → wI its + p ≤ T.2
  | 0, st, p, its, hp, h => by unfold pIts at h; exact (nomatch h)
  | f + 1, st, p, its, hp, h => by
    rw [pIts_s] at h
    by_cases h1 : st ≠ [] ∧ cA T p = 125
    · rw [if_pos h1] at h
      have hpl : p < T.2 := cA_in (by omega)
      have h0 := sk_adv (T := T) (p := p + 1) (by omega)
      cases st with
      | nil => exact absurd rfl h1.1
      | cons b st =>
        split at h
        next h2 =>
          have hql : sk T (p + 1) < T.2 := cA_in (by omega)
          have hq0 := sk_adv (T := T) (p := sk T (p + 1) + 1) (by omega)
          obtain ⟨u, p2, a2, h⟩ := bd_inv h
          obtain ⟨r, a3, h⟩ := bi_inv h
          cases h
          have c1 := pTk_adv (by decide) a2
          have d1 := pIts_w f (2 :: st) p2 r c1.2 a3
          unfold adv at c1
          show wgS 2 + wI r + p ≤ T.2
          have : wgS 2 = 0 := by decide
          omega
        next h2 =>
          obtain ⟨r, a3, h⟩ := bi_inv h
          cases h
          have d1 := pIts_w f st _ r h0.2 a3
          show wgS 3 + wI r + p ≤ T.2
          have : wgS 3 = 1 := by decide
          omega
    · rw [if_neg h1] at h
      by_cases h2 : st = [] ∧ cA T p < 0
      · rw [if_pos h2] at h
        cases h
        show 0 + p ≤ T.2
        omega
      · rw [if_neg h2] at h
        by_cases h3 : cA T p = 63 ∧ st.length < 3
        · rw [if_pos h3] at h
          have hpl : p < T.2 := cA_in (by omega)
          have h0 := sk_adv (T := T) (p := p + 1) (by omega)
          obtain ⟨e, p1, a1, h⟩ := bd_inv h
          obtain ⟨u, p2, a2, h⟩ := bd_inv h
          obtain ⟨r, a3, h⟩ := bi_inv h
          cases h
          obtain ⟨b1, b2⟩ := pEx_adv _ _ _ _ a1
          have b3 := pTk_adv (by decide) a2
          have d1 := pIts_w f (1 :: st) p2 r b3.2 a3
          unfold adv at *
          show wgS 1 + wI r + p ≤ T.2
          have : wgS 1 = 3 := by decide
          omega
        · rw [if_neg h3] at h
          by_cases h4 : isN (cA T p)
          · rw [if_pos h4] at h
            obtain ⟨i, p1, a1, h⟩ := bd_inv h
            obtain ⟨r, a3, h⟩ := bi_inv h
            cases h
            obtain ⟨b1, b2, b3⟩ := pConn_adv a1
            have d1 := pIts_w f st p1 r b3.2 a3
            unfold adv at *
            show wgS i.1 + wI r + p ≤ T.2
            rw [b1]
            have : wgS 0 = 5 := by decide
            omega
          · rw [if_neg h4] at h
            by_cases h5 : st = [] ∧ (cA T p = 73 ∨ cA T p = 79 ∨ cA T p = 87 ∨ cA T p = 82 ∨ cA T p = 78)
            · rw [if_pos h5] at h
              obtain ⟨i, p1, a1, h⟩ := bd_inv h
              obtain ⟨r, a3, h⟩ := bi_inv h
              cases h
              obtain ⟨b1, b2, b3⟩ := pItem_adv a1 h5.2
              have d1 := pIts_w f st p1 r b3.2 a3
              unfold adv at *
              show wgS i.1 + wI r + p ≤ T.2
              have : wgS i.1 = 0 := by unfold wgS; rw [if_neg (by omega), if_neg (by omega), if_neg (by omega)]
              omega
            · rw [if_neg h5] at h
              exact (nomatch h)
theorem pAll_w {T : Tx} {its : List It} (h : pAll T = .ok its) : wI its ≤ T.2 := by
  have h' : pIts T (T.2 + 1) [] (sk T 0) = .ok its := h
  have := pIts_w (T.2 + 1) [] _ its (sk_le T (Nat.zero_le _)) h'
  omega
/-- what a step makes of the signals -/
theorem ck1_sg {env env' : EnvT} {sg sg' : List Sg} {lo : List Lo} {i : It} (h : ck1 env sg i = some (env', sg', lo)) : sg' = sg ∨ (i.1 = 4 ∧ sg' = sg ++ sgOf i.2.2.2.1 i.2.2.1 i.2.2.2.2.2) ∨ (i.1 = 5 ∧ ∃ nm e, sg' = sg ++ [(4, nm, 0, 0, e)]) := by
  unfold ck1 at h
  by_cases h4 : i.1 = 4
  · rw [if_pos h4] at h
    split at h
    · injection h with h
      injection h with h1 h2
      injection h2 with h2 h3
      exact Or.inr (Or.inl ⟨h4, h2.symm⟩)
    · cases h
  rw [if_neg h4] at h
  by_cases h5 : i.1 = 5
  · rw [if_pos h5] at h
    split at h
    · split at h
      next e' he =>
        injection h with h
        injection h with h1 h2
        injection h2 with h2 h3
        exact Or.inr (Or.inr ⟨h5, _, _, h2.symm⟩)
      · cases h
    · cases h
  rw [if_neg h5] at h
  by_cases h0 : i.1 = 0
  · rw [if_pos h0] at h
    split at h
    · injection h with h
      injection h with h1 h2
      injection h2 with h2 h3
      exact Or.inl h2.symm
    · cases h
  rw [if_neg h0] at h
  by_cases h1 : i.1 = 1
  · rw [if_pos h1] at h
    split at h
    · injection h with h
      injection h with a b
      injection b with b c
      exact Or.inl b.symm
    · cases h
  rw [if_neg h1] at h
  injection h with h
  injection h with a b
  injection b with b c
  exact Or.inl b.symm
theorem ck1_pre {env env' : EnvT} {sg sg' : List Sg} {lo : List Lo} {i : It} (h : ck1 env sg i = some (env', sg', lo)) : ∃ t, sg' = sg ++ t := by
  rcases ck1_sg h with h | ⟨-, h⟩ | ⟨-, nm, e, h⟩
  · exact ⟨[], by rw [h, List.append_nil]⟩
  · exact ⟨_, h⟩
  · exact ⟨_, h⟩
theorem ckA_sg : ∀ (its : List It) (env : EnvT) (sg : List Sg) (lo lo2 : List Lo) (sg' : List Sg), ckA env sg lo its = .ok (sg', lo2) → ∃ t, sg' = sg ++ t := by
  intro its
  induction its with
  | nil =>
    intro env sg lo lo2 sg' h
    rw [ckA] at h
    injection h with h
    injection h with h1 h2
    exact ⟨[], by rw [h1, List.append_nil]⟩
  | cons i r ih =>
    intro env sg lo lo2 sg' h
    rw [ckA] at h
    cases hc : ck1 env sg i with
    | none => rw [hc] at h; cases h
    | some y =>
      obtain ⟨env1, sg1, lo1⟩ := y
      rw [hc] at h
      dsimp only at h
      obtain ⟨t, ht⟩ := ih env1 sg1 _ lo2 sg' h
      obtain ⟨t2, ht2⟩ := ck1_pre hc
      exact ⟨t2 ++ t, by rw [ht, ht2, List.append_assoc]⟩
/-- each node has its step -/
theorem cst_node : ∀ (its : List It) (env : EnvT) (sg : List Sg) (lo lo2 : List Lo) (sg' : List Sg), (∀ i, i ∈ its → i.1 = 4 → i.2.2.2.1 < 4) → ckA env sg lo its = .ok (sg', lo2) → ∀ (g : Nat) (x : Sg), sg'[g]? = some x → x.1 = 4 → g < sg.length ∨ ∃ l, (5, g, l) ∈ cst env sg its := by
  intro its
  induction its with
  | nil =>
    intro env sg lo lo2 sg' _ h g x hx _
    rw [ckA] at h
    injection h with h
    injection h with h1 h2
    subst h1
    exact Or.inl (List.getElem?_eq_some_iff.mp hx).1
  | cons i r ih =>
    intro env sg lo lo2 sg' hI h g x hx h4
    rw [ckA] at h
    rw [cst]
    cases hc : ck1 env sg i with
    | none => rw [hc] at h; cases h
    | some y =>
      obtain ⟨env1, sg1, lo1⟩ := y
      rw [hc] at h
      dsimp only at h ⊢
      rcases ih env1 sg1 _ lo2 sg' (fun i hi => hI i (List.mem_cons_of_mem _ hi)) h g x hx h4 with hz | ⟨l, hl⟩
      · by_cases hgl : g < sg.length
        · exact Or.inl hgl
        · right
          obtain ⟨t, ht⟩ := ckA_sg _ _ _ _ _ _ h
          rw [ht, List.getElem?_append_left hz] at hx
          rcases ck1_sg hc with e | ⟨e4, e⟩ | ⟨e5, nm, e', e⟩
          · rw [e] at hz; exact absurd hz hgl
          · rw [e, List.getElem?_append_right (by omega)] at hx
            obtain ⟨-, hx2⟩ := sgOf_get hx
            have := hI i List.mem_cons_self e4
            rw [hx2] at h4
            dsimp only at h4
            omega
          · rw [e, List.length_append] at hz
            have hz' : g = sg.length := by simp at hz; omega
            refine ⟨lo1, ?_⟩
            rw [hz', ← e5]
            exact List.mem_cons_self
      · exact Or.inr ⟨l, List.mem_cons_of_mem _ hl⟩
