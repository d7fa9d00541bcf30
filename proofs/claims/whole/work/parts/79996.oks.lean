/-! what can be read: how far reading goes, and what it gives -/
/-- from p on to q, inside the text -/
def adv (T : Tx) (p q n : Nat) : Prop := p + n ≤ q ∧ q ≤ T.2
theorem bd_inv {α β : Type} {x : Except Nat (α × Nat)} {f : α → Nat → Except Nat β} {r : β} (h : bd x f = .ok r) : ∃ a p, x = .ok (a, p) ∧ f a p = .ok r := by
  cases x with
  | error e => exact (nomatch h)
  | ok ap => obtain ⟨a, p⟩ := ap; exact ⟨a, p, rfl, h⟩
theorem bi_inv {α β : Type} {x : Except Nat α} {f : α → Except Nat β} {r : β} (h : bi x f = .ok r) : ∃ a, x = .ok a ∧ f a = .ok r := by
  cases x with
  | error e => exact (nomatch h)
  | ok a => exact ⟨a, rfl, h⟩
theorem sk_adv {T : Tx} {p : Nat} (h : p ≤ T.2) : p ≤ sk T p ∧ sk T p ≤ T.2 := ⟨sk_ge T p, sk_le T h⟩
theorem pNm_adv {T : Tx} {p n q : Nat} (h : pNm T p = .ok (n, q)) : n < 26 ∧ adv T p q 1 := by
  unfold pNm at h
  split at h
  next hn =>
    cases h
    have hp : p < T.2 := cA_in (by have := hn.1; omega)
    have := sk_adv (T := T) (p := p + 1) (by omega)
    exact ⟨by have := hn.1; have := hn.2; omega, by unfold adv; omega⟩
  next => exact (nomatch h)
theorem pNu_adv {T : Tx} {lo hi : Int} {p v q : Nat} (hlo : 0 ≤ lo) (h : pNu T lo hi p = .ok (v, q)) : lo ≤ v ∧ (v : Int) ≤ hi ∧ v ≤ 65535 ∧ adv T p q 1 := by
  by_cases hn : okNu T lo hi p
  · rw [pNu_ok hn] at h
    cases h
    obtain ⟨g1, g2, g3, g4, g5⟩ := hn
    have hp : p < T.2 := cA_in (by have := g1.1; omega)
    have h1 := nE_next g1
    have h2 := nE_ge T (p + 1)
    have h3 := nE_le T (j := p) (by omega)
    have := sk_adv (T := T) h3
    refine ⟨by omega, by omega, by omega, by unfold adv; omega⟩
  · rw [pNu_no hn] at h
    exact (nomatch h)
theorem pTk_adv {T : Tx} {c : Int} {p q : Nat} {u : Unit} (hc : 0 ≤ c) (h : pTk T c p = .ok (u, q)) : adv T p q 1 := by
  unfold pTk at h
  split at h
  next hn =>
    cases h
    have hp : p < T.2 := cA_in (by omega)
    have := sk_adv (T := T) (p := p + 1) (by omega)
    unfold adv
    omega
  next => exact (nomatch h)
theorem pPath_adv {T : Tx} : ∀ (k p q : Nat) (r : Jvm.Term), p ≤ T.2 → pPath T k p = .ok (r, q) → pbd r ∧ adv T p q 0
  | 0, p, q, r, hp, h => by
    unfold pPath at h
    split at h
    · exact (nomatch h)
    · cases h
      exact ⟨trivial, by unfold adv; omega⟩
  | k + 1, p, q, r, hp, h => by
    unfold pPath at h
    split at h
    next h46 =>
      have hpl : p < T.2 := cA_in (by omega)
      have h0 := sk_adv (T := T) (p := p + 1) (by omega)
      obtain ⟨f, p1, a1, h⟩ := bd_inv h
      obtain ⟨r', p2, a2, h⟩ := bd_inv h
      cases h
      obtain ⟨b1, b2⟩ := pNm_adv a1
      obtain ⟨c1, c2⟩ := pPath_adv k p1 _ r' b2.2 a2
      unfold adv at *
      exact ⟨⟨by omega, c1⟩, by omega⟩
    next =>
      split at h
      next h91 =>
        have hpl : p < T.2 := cA_in (by omega)
        have h0 := sk_adv (T := T) (p := p + 1) (by omega)
        obtain ⟨v, p1, a1, h⟩ := bd_inv h
        obtain ⟨u, p2, a2, h⟩ := bd_inv h
        obtain ⟨r', p3, a3, h⟩ := bd_inv h
        cases h
        obtain ⟨b1, b2, b3, b4⟩ := pNu_adv (by decide) a1
        have b5 := pTk_adv (by decide) a2
        obtain ⟨c1, c2⟩ := pPath_adv k p2 _ r' b5.2 a3
        unfold adv at *
        exact ⟨⟨by omega, c1⟩, by omega⟩
      next =>
        cases h
        exact ⟨trivial, by unfold adv; omega⟩
theorem pRf_adv {T : Tx} {p q : Nat} {e : Jvm.Term} (h : pRf T p = .ok (e, q)) : ebd e ∧ adv T p q 1 := by
  unfold pRf at h
  obtain ⟨n, p1, a1, h⟩ := bd_inv h
  obtain ⟨r, p2, a2, h⟩ := bd_inv h
  cases h
  obtain ⟨b1, b2⟩ := pNm_adv a1
  obtain ⟨c1, c2⟩ := pPath_adv 6 p1 _ r b2.2 a2
  unfold adv at *
  exact ⟨c1, by omega⟩
theorem pEx_adv {T : Tx} : ∀ (d p q : Nat) (e : Jvm.Term), pEx T d p = .ok (e, q) → ebd e ∧ adv T p q 1
  | 0, p, q, e, h => by unfold pEx at h; exact (nomatch h)
  | d + 1, p, q, e, h => by
    unfold pEx at h
    split at h
    · exact pRf_adv h
    · split at h
      · obtain ⟨v, p1, a1, h⟩ := bd_inv h
        cases h
        exact ⟨trivial, (pNu_adv (by decide) a1).2.2.2⟩
      · split at h
        next h33 =>
          have hpl : p < T.2 := cA_in (by omega)
          have h0 := sk_adv (T := T) (p := p + 1) (by omega)
          obtain ⟨u1, p1, a1, h⟩ := bd_inv h
          obtain ⟨a, p2, a2, h⟩ := bd_inv h
          obtain ⟨u2, p3, a3, h⟩ := bd_inv h
          cases h
          have b1 := pTk_adv (by decide) a1
          obtain ⟨b2, b3⟩ := pEx_adv d _ _ _ a2
          have b4 := pTk_adv (by decide) a3
          unfold adv at *
          exact ⟨b2, by omega⟩
        next =>
          split at h
          next h84 =>
            have hpl : p < T.2 := cA_in (by omega)
            have h0 := sk_adv (T := T) (p := p + 1) (by omega)
            obtain ⟨u1, p1, a1, h⟩ := bd_inv h
            obtain ⟨a, p2, a2, h⟩ := bd_inv h
            obtain ⟨u2, p3, a3, h⟩ := bd_inv h
            obtain ⟨hh, p4, a4, h⟩ := bd_inv h
            obtain ⟨u3, p5, a5, h⟩ := bd_inv h
            obtain ⟨ll, p6, a6, h⟩ := bd_inv h
            obtain ⟨u4, p7, a7, h⟩ := bd_inv h
            cases h
            have b1 := pTk_adv (by decide) a1
            obtain ⟨b2, b3⟩ := pEx_adv d _ _ _ a2
            have b4 := pTk_adv (by decide) a3
            have b5 := (pNu_adv (by decide) a4).2.2.2
            have b6 := pTk_adv (by decide) a5
            have b7 := (pNu_adv (by decide) a6).2.2.2
            have b8 := pTk_adv (by decide) a7
            unfold adv at *
            exact ⟨b2, by omega⟩
          next =>
            split at h
            next h77 =>
              have hpl : p < T.2 := cA_in (by omega)
              have h0 := sk_adv (T := T) (p := p + 1) (by omega)
              obtain ⟨u1, p1, a1, h⟩ := bd_inv h
              obtain ⟨c, p2, a2, h⟩ := bd_inv h
              obtain ⟨u2, p3, a3, h⟩ := bd_inv h
              obtain ⟨a, p4, a4, h⟩ := bd_inv h
              obtain ⟨u3, p5, a5, h⟩ := bd_inv h
              obtain ⟨b, p6, a6, h⟩ := bd_inv h
              obtain ⟨u4, p7, a7, h⟩ := bd_inv h
              cases h
              have b1 := pTk_adv (by decide) a1
              obtain ⟨b2, b3⟩ := pEx_adv d _ _ _ a2
              have b4 := pTk_adv (by decide) a3
              obtain ⟨b5, b6⟩ := pEx_adv d _ _ _ a4
              have b7 := pTk_adv (by decide) a5
              obtain ⟨b8, b9⟩ := pEx_adv d _ _ _ a6
              have b10 := pTk_adv (by decide) a7
              unfold adv at *
              exact ⟨⟨b2, b5, b8⟩, by omega⟩
            next =>
              split at h
              next h2 =>
                have hpl : p < T.2 := cA_in (by have := h2.1; omega)
                have h0 := sk_adv (T := T) (p := p + 1) (by omega)
                obtain ⟨u1, p1, a1, h⟩ := bd_inv h
                obtain ⟨a, p2, a2, h⟩ := bd_inv h
                obtain ⟨u2, p3, a3, h⟩ := bd_inv h
                obtain ⟨b, p4, a4, h⟩ := bd_inv h
                obtain ⟨u3, p5, a5, h⟩ := bd_inv h
                cases h
                have b1 := pTk_adv (by decide) a1
                obtain ⟨b2, b3⟩ := pEx_adv d _ _ _ a2
                have b4 := pTk_adv (by decide) a3
                obtain ⟨b5, b6⟩ := pEx_adv d _ _ _ a4
                have b7 := pTk_adv (by decide) a5
                unfold adv at *
                exact ⟨⟨b2, b5⟩, by omega⟩
              next => exact (nomatch h)
theorem pVec_adv {T : Tx} {P : Jvm.Term → Prop} (hP : ∀ n t, 1 ≤ n → n ≤ 4 → P t → P (tV n t)) : ∀ (f : Nat) (t : Jvm.Term) (p q : Nat) (t' : Jvm.Term), p ≤ T.2 → P t → pVec T f t p = .ok (t', q) → P t' ∧ adv T p q 0
  | 0, t, p, q, t', hp, ht, h => by unfold pVec at h; exact (nomatch h)
  | f + 1, t, p, q, t', hp, ht, h => by
    unfold pVec at h
    split at h
    next h91 =>
      have hpl : p < T.2 := cA_in (by omega)
      have h0 := sk_adv (T := T) (p := p + 1) (by omega)
      obtain ⟨n, p1, a1, h⟩ := bd_inv h
      obtain ⟨u, p2, a2, h⟩ := bd_inv h
      obtain ⟨b1, b2, b3, b4⟩ := pNu_adv (by decide) a1
      have b5 := pTk_adv (by decide) a2
      obtain ⟨c1, c2⟩ := pVec_adv hP f (tV n t) p2 q t' b5.2 (hP n t (by omega) (by omega) ht) h
      unfold adv at *
      exact ⟨c1, by omega⟩
    next =>
      cases h
      exact ⟨ht, by unfold adv; omega⟩
/-- a type (true) or fields (false) as they can be read -/
def tgd : Bool → Jvm.Term → Prop
  | true, .arg w => w ≤ 16
  | true, .mul (.arg n) t => (1 ≤ n ∧ n ≤ 4) ∧ tgd true t
  | true, .sum fs => 1 ≤ tsz fs ∧ tgd false fs
  | false, .div (.sub (.arg n) (.arg b)) (.rem t r) => (n < 26 ∧ b ≤ 1) ∧ tgd true t ∧ tgd false r
  | false, .null => True
  | _, _ => False
theorem tgd_pos {t : Jvm.Term} (h : tgd true t) : 1 ≤ tsz t := by
  generalize hy : true = y at h
  revert h
  fun_induction tgd y t with
  | case1 w => exact fun _ => Nat.le_refl _
  | case2 n t ih => exact fun h => Nat.mul_pos h.1.1 (ih rfl h.2)
  | case3 fs ih => exact fun h => h.1
  | case4 => exact (nomatch hy)
  | case5 => exact (nomatch hy)
  | case6 => intro h; exact h.elim
theorem lf_16 {y : Bool} {t : Jvm.Term} {k f : Nat} (h : tgd y t) : (lf t k f).1 ≤ 16 := by
  revert h
  fun_induction lf t k f generalizing y with
  | case1 w k f =>
    intro h
    cases y with
    | false => exact h.elim
    | true => exact h
  | case2 w t k f ih =>
    intro h
    cases y with
    | false => exact h.elim
    | true => exact ih h.2
  | case3 fs k f ih =>
    intro h
    cases y with
    | false => exact h.elim
    | true => exact ih h.2
  | case4 nm bk t r k f hk ih =>
    intro h
    cases y with
    | false => exact ih h.2.1
    | true => exact h.elim
  | case5 nm bk t r k f hk ih =>
    intro h
    cases y with
    | false => exact ih h.2.2
    | true => exact h.elim
  | case6 => exact fun _ => Nat.zero_le _
theorem pFs_adv {T : Tx} {D : Nat} {F : Nat → PR Jvm.Term} (hF : ∀ p q t, F p = .ok (t, q) → (tgd true t ∧ dpt t ≤ D) ∧ adv T p q 1) : ∀ (f p q : Nat) (fs : Jvm.Term), pFs T F f p = .ok (fs, q) → (tgd false fs ∧ dpt fs ≤ D ∧ 1 ≤ tsz fs) ∧ adv T p q 1
  | 0, p, q, fs, h => by unfold pFs at h; exact (nomatch h)
  | f + 1, p, q, fs, h => by
    rw [pFs_h] at h
    obtain ⟨nb, p3, a1, h⟩ := bd_inv h
    obtain ⟨t, p4, a2, h⟩ := bd_inv h
    obtain ⟨⟨t1, t2⟩, t3⟩ := hF _ _ _ a2
    have tp := tgd_pos t1
    have hh : (nb.1 < 26 ∧ nb.2 ≤ 1) ∧ adv T p p3 1 := by
      unfold pFh at a1
      obtain ⟨n, p1, c1, c2⟩ := bd_inv a1
      obtain ⟨u, p2, c3, c4⟩ := bd_inv c2
      cases c4
      obtain ⟨d1, d2⟩ := pNm_adv c1
      have d3 := pTk_adv (by decide) c3
      have d4 : p1 ≤ (if cA T p1 = 126 then sk T (p1 + 1) else p1) := by
        split
        · have := sk_ge T (p1 + 1); omega
        · exact Nat.le_refl _
      unfold adv at *
      exact ⟨⟨d1, by dsimp only; split <;> omega⟩, by omega⟩
    obtain ⟨h1, h2⟩ := hh
    split at h
    next h44 =>
      have hpl : p4 < T.2 := cA_in (by omega)
      have h0 := sk_adv (T := T) (p := p4 + 1) (by omega)
      obtain ⟨r, p5, a3, h⟩ := bd_inv h
      cases h
      obtain ⟨⟨r1, r2, r3⟩, r4⟩ := pFs_adv hF f _ _ r a3
      unfold adv at *
      exact ⟨⟨⟨h1, t1, r1⟩, by simp only [fCons, dpt]; omega, by simp only [fCons, tsz]; omega⟩, by omega⟩
    next =>
      split at h
      next h125 =>
        have hpl : p4 < T.2 := cA_in (by omega)
        have h0 := sk_adv (T := T) (p := p4 + 1) (by omega)
        cases h
        unfold adv at *
        exact ⟨⟨⟨h1, t1, trivial⟩, by simp only [fCons, dpt, tNil]; omega, by simp only [fCons, tsz, tNil]; omega⟩, by omega⟩
      next => exact (nomatch h)
theorem pTy_adv {T : Tx} : ∀ (D p q : Nat) (t : Jvm.Term), pTy T D p = .ok (t, q) → (tgd true t ∧ dpt t ≤ D) ∧ adv T p q 1
  | 0, p, q, t, h => by unfold pTy at h; exact (nomatch h)
  | D + 1, p, q, t, h => by
    have hV : ∀ n t, 1 ≤ n → n ≤ 4 → (tgd true t ∧ dpt t ≤ D + 1) → (tgd true (tV n t) ∧ dpt (tV n t) ≤ D + 1) := fun n t h1 h2 h3 => ⟨⟨⟨h1, h2⟩, h3.1⟩, h3.2⟩
    unfold pTy at h
    split at h
    next h85 =>
      have hpl : p < T.2 := cA_in (by omega)
      have h0 := sk_adv (T := T) (p := p + 1) (by omega)
      split at h
      · obtain ⟨w, p1, a1, h⟩ := bd_inv h
        obtain ⟨b1, b2, b3, b4⟩ := pNu_adv (by decide) a1
        obtain ⟨c1, c2⟩ := pVec_adv hV _ (tU w) p1 q t b4.2 ⟨by show w ≤ 16; omega, Nat.zero_le _⟩ h
        unfold adv at *
        exact ⟨c1, by omega⟩
      · obtain ⟨c1, c2⟩ := pVec_adv hV _ (tU 0) _ q t h0.2 ⟨by show 0 ≤ 16; omega, Nat.zero_le _⟩ h
        unfold adv at *
        exact ⟨c1, by omega⟩
    next =>
      split at h
      next h123 =>
        have hpl : p < T.2 := cA_in (by omega)
        have h0 := sk_adv (T := T) (p := p + 1) (by omega)
        obtain ⟨fs, p1, a1, h⟩ := bd_inv h
        obtain ⟨⟨b1, b2, b3⟩, b4⟩ := pFs_adv (D := D) (fun p q t h => pTy_adv D p q t h) _ _ _ _ a1
        obtain ⟨c1, c2⟩ := pVec_adv hV _ (tB fs) p1 q t b4.2 ⟨⟨b3, b1⟩, by simp only [tB, dpt]; omega⟩ h
        unfold adv at *
        exact ⟨c1, by omega⟩
      next => exact (nomatch h)
