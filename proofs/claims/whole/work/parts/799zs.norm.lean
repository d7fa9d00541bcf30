/-! the document's steps and the class's -/
theorem ckA_pre : ∀ (its : List It) (env : EnvT) (sg : List Sg) (lo : List Lo), ckA env sg lo its = match ckA env sg [] its with
    | .ok (sg', l) => .ok (sg', lo ++ l)
    | .error p => .error p := by
  intro its
  induction its with
  | nil => intro env sg lo; rw [ckA, ckA]; simp
  | cons i r ih =>
    intro env sg lo
    rw [ckA, ckA]
    cases ck1 env sg i with
    | none => rfl
    | some y =>
      obtain ⟨env', sg', lo'⟩ := y
      dsimp only
      rw [ih env' sg' (lo ++ lo'), ih env' sg' ([] ++ lo')]
      cases ckA env' sg' [] r with
      | error p => rfl
      | ok z =>
        obtain ⟨sg3, l3⟩ := z
        dsimp only
        rw [List.nil_append, List.append_assoc]
/-- the low steps with two ends for each ? -/
def nrmL : List Nat → List Lo → List Lo
  | _, [] => []
  | st, x :: r => if x.1 = 3 then (if st.head? = some 1 then (2, 0, .null) :: x :: nrmL st.tail r else x :: nrmL st.tail r) else if x.1 = 1 then x :: nrmL (1 :: st) r else if x.1 = 2 then x :: nrmL (2 :: st.tail) r else x :: nrmL st r
theorem nrmL_zeros : ∀ (l r : List Lo) (st : List Nat), (∀ x, x ∈ l → x.1 = 0) → nrmL st (l ++ r) = l ++ nrmL st r := by
  intro l
  induction l with
  | nil => intro r st _; rfl
  | cons x l ih =>
    intro r st h
    have h0 := h x List.mem_cons_self
    rw [List.cons_append, nrmL, if_neg (by omega), if_neg (by omega), if_neg (by omega), ih r st (fun y hy => h y (List.mem_cons_of_mem _ hy)), List.cons_append]
theorem mtc_zeros {env : EnvT} {l e : Jvm.Term} {lo : List Lo} (h : mtc env l e = some lo) : ∀ x, x ∈ lo → x.1 = 0 := by
  by_cases hl : ∃ nm r, l = .add (.arg nm) r
  · obtain ⟨nm, r, rfl⟩ := hl
    cases hq : lk env nm r with
    | none => rw [mtc, hq] at h; cases h
    | some y =>
      obtain ⟨to, ty, fl⟩ := y
      by_cases he : ∃ nm2 r2, e = .add (.arg nm2) r2
      · obtain ⟨nm2, r2, rfl⟩ := he
        rw [mtc, hq] at h
        dsimp only at h
        cases hq2 : lk env nm2 r2 with
        | none => rw [hq2] at h; cases h
        | some z =>
          rw [hq2] at h
          dsimp only at h
          split at h
          · injection h with h
            subst h
            intro x hx
            obtain ⟨p, -, rfl⟩ := List.mem_map.mp hx
            rfl
          · cases h
      · rw [mtc_ne hq (fun a b z => he ⟨a, b, z⟩)] at h
        split at h
        · cases hr : rE env e with
          | none => rw [hr] at h; cases h
          | some e' =>
            rw [hr] at h
            injection h with h
            subst h
            intro x hx
            simp at hx
            rw [hx]
        · cases h
  · unfold mtc at h
    split at h
    next nm r => exact absurd ⟨nm, r, rfl⟩ hl
    next => cases h
theorem ck1_other {env : EnvT} {sg : List Sg} {i : It} (h : ¬ i.1 = 4 ∧ ¬ i.1 = 5 ∧ ¬ i.1 = 0 ∧ ¬ i.1 = 1) : ck1 env sg i = some (env, sg, [(i.1, 0, .null)]) := by
  unfold ck1
  rw [if_neg h.1, if_neg h.2.1, if_neg h.2.2.1, if_neg h.2.2.2]
/-- what a step gives: its own kind, or connections, or nothing -/
theorem ck1_lo {env env' : EnvT} {sg sg' : List Sg} {lo : List Lo} {i : It} (h : ck1 env sg i = some (env', sg', lo)) : (i.1 = 1 ∧ ∃ e', lo = [(1, 0, e')]) ∨ (¬ i.1 = 1 ∧ ¬ i.1 = 2 ∧ ¬ i.1 = 3 ∧ (∀ x, x ∈ lo → x.1 ≠ 1 ∧ x.1 ≠ 2 ∧ x.1 ≠ 3)) ∨ ((i.1 = 2 ∨ i.1 = 3) ∧ lo = [(i.1, 0, .null)] ∧ env' = env ∧ sg' = sg) := by
  unfold ck1 at h
  by_cases h4 : i.1 = 4
  · rw [if_pos h4] at h
    split at h
    · injection h with h
      injection h with h1 h2
      injection h2 with h2 h3
      subst h3
      exact Or.inr (Or.inl ⟨by omega, by omega, by omega, fun x hx => by simp at hx⟩)
    · cases h
  rw [if_neg h4] at h
  by_cases h5 : i.1 = 5
  · rw [if_pos h5] at h
    split at h
    · split at h
      · injection h with h
        injection h with h1 h2
        injection h2 with h2 h3
        subst h3
        exact Or.inr (Or.inl ⟨by omega, by omega, by omega, fun x hx => by simp at hx⟩)
      · cases h
    · cases h
  rw [if_neg h5] at h
  by_cases h0 : i.1 = 0
  · rw [if_pos h0, cn_mtc] at h
    cases hm : mtc env i.2.2.2.2.1 i.2.2.2.2.2 with
    | none => rw [hm] at h; cases h
    | some l =>
      rw [hm] at h
      dsimp only at h
      split at h
      next q hq =>
        split at hq
        · injection hq with hq
          injection h with h
          injection h with h1 h2
          injection h2 with h2 h3
          subst h3 hq
          exact Or.inr (Or.inl ⟨by omega, by omega, by omega, fun x hx => by have := mtc_zeros hm x hx; omega⟩)
        · cases hq
      next => cases h
  rw [if_neg h0] at h
  by_cases h1 : i.1 = 1
  · rw [if_pos h1] at h
    split at h
    · injection h with h
      injection h with a b
      injection b with b c
      exact Or.inl ⟨h1, _, c.symm⟩
    · cases h
  rw [if_neg h1] at h
  injection h with h
  injection h with a b
  injection b with b c
  by_cases h23 : i.1 = 2 ∨ i.1 = 3
  · exact Or.inr (Or.inr ⟨h23, c.symm, a.symm, b.symm⟩)
  · subst c
    exact Or.inr (Or.inl ⟨h1, by omega, by omega, fun x hx => by simp at hx; rw [hx]; exact ⟨h1, by omega, by omega⟩⟩)
theorem nrmL_app : ∀ (l r : List Lo) (st : List Nat), (∀ x, x ∈ l → x.1 ≠ 1 ∧ x.1 ≠ 2 ∧ x.1 ≠ 3) → nrmL st (l ++ r) = l ++ nrmL st r := by
  intro l
  induction l with
  | nil => intro r st _; rfl
  | cons x l ih =>
    intro r st h
    have h0 := h x List.mem_cons_self
    rw [List.cons_append, nrmL, if_neg h0.2.2, if_neg h0.1, if_neg h0.2.1, ih r st (fun y hy => h y (List.mem_cons_of_mem _ hy)), List.cons_append]
theorem ckA_nrm : ∀ (its : List It) (st : List Nat) (env : EnvT) (sg : List Sg), ckA env sg [] (nrm st its) = match ckA env sg [] its with
    | .ok (sg', l) => .ok (sg', nrmL st l)
    | .error p => .error p := by
  intro its
  induction its with
  | nil => intro st env sg; rw [nrm, ckA]; rfl
  | cons i r ih =>
    intro st env sg
    have two : ∀ p, ck1 env sg (2, p, 0, 0, tNil, tNil) = some (env, sg, [(2, 0, .null)]) := fun p => ck1_other ⟨by show ¬ (2 : Nat) = 4; decide, by show ¬ (2 : Nat) = 5; decide, by show ¬ (2 : Nat) = 0; decide, by show ¬ (2 : Nat) = 1; decide⟩
    cases hc : ck1 env sg i with
    | none =>
      have h23 : ¬ (i.1 = 2 ∨ i.1 = 3) := fun z => by
        rw [ck1_other ⟨by omega, by omega, by omega, by omega⟩] at hc
        cases hc
      have hn : ∃ st', nrm st (i :: r) = i :: nrm st' r := by
        by_cases h1 : i.1 = 1
        · exact ⟨1 :: st, by rw [nrm, if_neg (by omega), if_pos h1]⟩
        · exact ⟨st, by rw [nrm, if_neg (by omega), if_neg h1, if_neg (by omega)]⟩
      obtain ⟨st', hn⟩ := hn
      rw [hn, ckA, ckA, hc]
    | some y =>
      obtain ⟨env', sg', lo'⟩ := y
      have hR : ckA env sg [] (i :: r) = match ckA env' sg' [] r with
          | .ok (sg2, l) => .ok (sg2, lo' ++ l)
          | .error p => .error p := by
        rw [ckA, hc]
        dsimp only
        rw [ckA_pre r env' sg' ([] ++ lo'), List.nil_append]
      rw [hR]
      rcases ck1_lo hc with ⟨h1, e', rfl⟩ | ⟨h1, h2, h3, h4⟩ | ⟨h23, rfl, rfl, rfl⟩
      · rw [nrm, if_neg (by omega), if_pos h1, ckA, hc]
        dsimp only
        rw [ckA_pre _ env' sg' ([] ++ _), ih (1 :: st) env' sg']
        cases ckA env' sg' [] r with
        | error p => rfl
        | ok z =>
          obtain ⟨sg3, l3⟩ := z
          dsimp only
          rw [List.nil_append, List.singleton_append, List.singleton_append, nrmL, if_neg (show ¬ (1 : Nat) = 3 by decide), if_pos (show (1 : Nat) = 1 from rfl)]
      · rw [nrm, if_neg h3, if_neg h1, if_neg h2, ckA, hc]
        dsimp only
        rw [ckA_pre _ env' sg' ([] ++ _), ih st env' sg']
        cases ckA env' sg' [] r with
        | error p => rfl
        | ok z =>
          obtain ⟨sg3, l3⟩ := z
          dsimp only
          rw [List.nil_append, nrmL_app _ _ _ h4]
      · by_cases hi3 : i.1 = 3
        · by_cases hh : st.head? = some 1
          · rw [nrm, if_pos hi3, if_pos hh, ckA, two]
            dsimp only
            rw [ckA, hc]
            dsimp only
            rw [ckA_pre _ env' sg' _, ih st.tail env' sg']
            cases ckA env' sg' [] r with
            | error p => rfl
            | ok z =>
              obtain ⟨sg3, l3⟩ := z
              dsimp only
              rw [List.singleton_append, nrmL, if_pos hi3, if_pos hh]
              rfl
          · rw [nrm, if_pos hi3, if_neg hh, ckA, hc]
            dsimp only
            rw [ckA_pre _ env' sg' _, ih st.tail env' sg']
            cases ckA env' sg' [] r with
            | error p => rfl
            | ok z =>
              obtain ⟨sg3, l3⟩ := z
              dsimp only
              rw [List.singleton_append, nrmL, if_pos hi3, if_neg hh]
              rfl
        · have hi2 : i.1 = 2 := by omega
          rw [nrm, if_neg hi3, if_neg (by omega), if_pos hi2, ckA, hc]
          dsimp only
          rw [ckA_pre _ env' sg' _, ih (2 :: st.tail) env' sg']
          cases ckA env' sg' [] r with
          | error p => rfl
          | ok z =>
            obtain ⟨sg3, l3⟩ := z
            dsimp only
            rw [List.singleton_append, nrmL, if_neg hi3, if_neg (show ¬ i.1 = 1 by omega), if_pos hi2]
            rfl
theorem cvA_nrm : ∀ (its : List It) (st : List Nat) (env : EnvT) (sg : List Sg), cvA env sg (nrm st its) = cvA env sg its := by
  intro its
  induction its with
  | nil => intro st env sg; rfl
  | cons i r ih =>
    intro st env sg
    have one : ∀ st', cvA env sg (i :: nrm st' r) = cvA env sg (i :: r) := by
      intro st'
      rw [cvA, cvA]
      cases ck1 env sg i with
      | none => rfl
      | some y =>
        obtain ⟨env', sg', lo'⟩ := y
        dsimp only
        rw [ih st' env' sg']
    have two : ∀ p l, cvA env sg ((2, p, 0, 0, tNil, tNil) :: l) = cvA env sg l := by
      intro p l
      rw [cvA, ck1_other ⟨by show ¬ (2 : Nat) = 4; decide, by show ¬ (2 : Nat) = 5; decide, by show ¬ (2 : Nat) = 0; decide, by show ¬ (2 : Nat) = 1; decide⟩]
      rfl
    unfold nrm
    split
    · split
      · rw [two, one]
      · exact one _
    · split
      · exact one _
      · split
        · exact one _
        · exact one _
