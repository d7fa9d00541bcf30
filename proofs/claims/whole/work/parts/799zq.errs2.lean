/-- the steps as the class goes through them: what each is, its signal, what it gives -/
noncomputable def cst : EnvT → List Sg → List It → List (Nat × Nat × List Lo)
  | _, _, [] => []
  | env, sg, i :: r => match ck1 env sg i with
    | some (env', sg', lo') => (i.1, sg.length, lo') :: cst env' sg' r
    | none => []
theorem CIs_get {s : Mem} {o P M C : Nat} : ∀ (l : List It) (k n : Nat), CIs s o P M C k n l → l.length = l.length := fun _ _ _ _ => rfl
theorem CIt_gen {s s' : Mem} {o k n P M C : Nat} {i : It} (h : CIt s o k n P M C i) (hst : ∀ q, 125 ≤ q → q ≤ 128 → s' q k = s q k) (hA : ∀ a b, n ≤ a → AC o P s s' a b) (hT : AY s s' M 0 C) : CIt s' o k n P M C i := by
  obtain ⟨h0, h⟩ := h
  refine ⟨by rw [hst _ (by decide) (by decide), h0], ?_⟩
  rcases h with ⟨h1, h2, h3, h4, h5, h6, h7⟩ | ⟨h1, h2, h3, h4⟩ | ⟨h1, h2⟩ | ⟨h1, h2⟩ | ⟨h1, h2, h3, h4, h5, t, h6, h7⟩ | ⟨h1, h2, h3, h4, h5, h6, h7⟩
  · exact Or.inl ⟨h1, by rw [hst _ (by decide) (by decide), h2], by rw [hst _ (by decide) (by decide), h3], by rw [hst _ (by decide) (by decide), h4], h5, CE_put h6 (hA _ _ (Nat.le_refl _)), CE_put h7 (hA _ _ (by omega))⟩
  · exact Or.inr (Or.inl ⟨h1, by rw [hst _ (by decide) (by decide), h2], by rw [hst _ (by decide) (by decide), h3], CE_put h4 (hA _ _ (Nat.le_refl _))⟩)
  · exact Or.inr (Or.inr (Or.inl ⟨h1, by rw [hst _ (by decide) (by decide), h2]⟩))
  · exact Or.inr (Or.inr (Or.inr (Or.inl ⟨h1, by rw [hst _ (by decide) (by decide), h2]⟩)))
  · exact Or.inr (Or.inr (Or.inr (Or.inr (Or.inl ⟨h1, by rw [hst _ (by decide) (by decide), h2], h3, by rw [hst _ (by decide) (by decide), h4], h5, t, by rw [hst _ (by decide) (by decide), h6], CT_put h7 hT⟩))))
  · exact Or.inr (Or.inr (Or.inr (Or.inr (Or.inr ⟨h1, by rw [hst _ (by decide) (by decide), h2], h3, by rw [hst _ (by decide) (by decide), h4], h5, by rw [hst _ (by decide) (by decide), h6], CE_put h7 (hA _ _ (Nat.le_refl _))⟩))))
theorem CIt_ck {s s' : Mem} {o k n P M C k0 n0 n1 L : Nat} {i : It} (ho : o = 0 ∨ o = 26) (h : CIt s o k n P M C i) (hk : k0 < k) (hn : n1 ≤ n) (f : Fr (CKF o k0 n0 n1 L) s s') : CIt s' o k n P M C i :=
  CIt_gen h (fun q h1 h2 => f _ _ (by unfold CKF LUF SGF; omega)) (fun a b ha => ⟨fun q j hq h1 _ => f _ _ (by unfold CKF LUF SGF; omega), fun j _ => f _ _ (by unfold CKF LUF SGF; omega)⟩) (fun q j hq => f _ _ (by unfold CKF LUF SGF; omega))
theorem CIs_ck {s s' : Mem} {o P M C k0 n0 n1 L : Nat} (ho : o = 0 ∨ o = 26) (f : Fr (CKF o k0 n0 n1 L) s s') : ∀ (l : List It) (k n : Nat), k0 < k → n1 ≤ n → CIs s o P M C k n l → CIs s' o P M C k n l
  | [], _, _, _, _, _ => trivial
  | i :: r, k, n, hk, hn, h => ⟨CIt_ck ho h.1 hk hn f, CIs_ck ho f r _ _ (by omega) (by omega) h.2⟩
/-- what the whole check writes -/
def CKG (o c j : Nat) : Prop := (67 + o ≤ c ∧ c ≤ 70 + o) ∨ SGF o 0 24 c j ∨ c = 134 ∨ c = 135 ∨ c = 127 ∨ (c = 58 + o ∧ j = 2)
theorem CKF_G {o k n n' L c j : Nat} (h : CKF o k n n' L c j) : CKG o c j := by
  rcases h with h | h | h | h | h | h
  · exact Or.inl ⟨h.1, h.2.1⟩
  · exact Or.inr (Or.inl (SGF_le (Nat.zero_le _) (Nat.le_refl _) h))
  · exact Or.inr (Or.inr (Or.inl h))
  · exact Or.inr (Or.inr (Or.inr (Or.inl h)))
  · exact Or.inr (Or.inr (Or.inr (Or.inr (Or.inl h.1))))
  · exact Or.inr (Or.inr (Or.inr (Or.inr (Or.inr h))))
/-- after the check -/
def CKD (s : Mem) (o U C N : Nat) (cv : List (Option Jvm.Term)) (sg : List Sg) (lo : List Lo) (xs : List (Nat × Nat × List Lo)) : Prop :=
  (∃ env, KCc s o U C env sg) ∧ (∀ j x, xs[j]? = some x → XS s o N sg j x) ∧ CVc s o sg.length 25 cv N ∧ s (58 + o) 2 = ((lo.filter (fun x => x.1 == 0)).length : Nat) ∧ lo = xs.flatMap (fun x => x.2.2)
theorem ckc_all {d o P U C K : Nat} (hd : 9 ≤ d) (hU : 1 ≤ U) (hP : P ≤ 200) (hK2 : K ≤ 200) : ∀ (its : List It) (env : EnvT) (sg : List Sg) (lo : List Lo) (xs : List (Nat × Nat × List Lo)) (cv : List (Option Jvm.Term)) (k n : Nat) (s : Mem), KCc s o U C env sg → CIs s o P U C k n its → (∀ i, i ∈ its → iC i) → s 124 4 = K → k + its.length = K → xs.length = k → (∀ j x, xs[j]? = some x → XS s o n sg j x) → CVc s o sg.length 25 cv n → 25 ≤ n → n + nszs its ≤ 225 → s (58 + o) 2 = ((lo.filter (fun x => x.1 == 0)).length : Nat) → (lo.filter (fun x => x.1 == 0)).length ≤ 24 * k → lo = xs.flatMap (fun x => x.2.2) → (s 115 0 = 0 ∧ s 116 0 = 0 ∧ s 118 0 = 1) →
    match ckA env sg lo its with
    | .ok (sg', lo') => ∃ s', Ze d 77 39 [aR 133, aR (58 + o), aI k] [] s = rI (-1) s' ∧ CKD s' o U C (n + nszs its) (cv ++ cvA env sg its) sg' lo' (xs ++ cst env sg its) ∧ Fr (CKG o) s s'
    | .error p => ∃ s', Ze d 77 39 [aR 133, aR (58 + o), aI k] [] s = rI p s' ∧ Fr (CKG o) s s' := by
  intro its
  induction its with
  | nil =>
    intro env sg lo xs cv k n s hK hI hC hu hk hx hX hcv hn hn2 hc hc2 hlo ht0
    have : k = K := by simpa using hk
    subst this
    refine ⟨s, te_end hu, ⟨⟨env, hK⟩, ?_, ?_, hc, ?_⟩, Fr.rf s⟩
    · intro j x hj
      rw [show cst env sg [] = [] from rfl, List.append_nil] at hj
      exact hX j x hj
    · rw [show cvA env sg [] = [] from rfl, List.append_nil]
      exact hcv
    · rw [show cst env sg [] = [] from rfl, List.append_nil]
      exact hlo
  | cons i r ih =>
    intro env sg lo xs cv k n s hK hI hC hu hk hx hX hcv hn hn2 hc hc2 hlo ht0
    have ho := hK.2.2.2.2.2.2.1.2.2
    simp only [nszs] at hn2 ⊢
    rw [List.length_cons] at hk
    have h1 := ckc_one (d := d) (K := K) hd hK hU hP hI.1 (hC i List.mem_cons_self) hu (by omega) hK2 hn (by omega) hc (by omega) ht0
    rw [ckA]
    cases hx1 : ck1 env sg i with
    | none =>
      rw [hx1] at h1
      obtain ⟨s', e1, e2⟩ := h1
      exact ⟨s', e1, e2.mono (fun _ _ h => CKF_G h)⟩
    | some y =>
      obtain ⟨env', sg', lo'⟩ := y
      rw [hx1] at h1
      obtain ⟨s1, e1, e2, e3, e4, e5, ⟨sg2, rfl⟩, e7, e8⟩ := h1
      dsimp only
      have hcst : cst env sg (i :: r) = (i.1, sg.length, lo') :: cst env' (sg ++ sg2) r := by rw [cst, hx1]
      have hcva : cvA env sg (i :: r) = cv1 env i ++ cvA env' (sg ++ sg2) r := by rw [cvA, hx1]
      have hq : ∀ c j, 114 ≤ c → c ≤ 124 → s1 c j = s c j := fun c j a b => e8 _ _ (CKF_no ho (Or.inl ⟨by omega, a, by omega⟩))
      have hlen : ((lo ++ lo').filter (fun x => x.1 == 0)).length = (lo.filter (fun x => x.1 == 0)).length + (lo'.filter (fun x => x.1 == 0)).length := by rw [List.filter_append, List.length_append]
      have hI2 := ih env' (sg ++ sg2) (lo ++ lo') (xs ++ [(i.1, sg.length, lo')]) (cv ++ cv1 env i) (k + 1) (n + nsz i) s1 e2 (CIs_ck ho e8 r _ _ (by omega) (Nat.le_refl _) hI.2) (fun x hx => hC x (List.mem_cons_of_mem _ hx)) (by rw [hq _ _ (by decide) (by decide), hu]) (by omega) (by rw [List.length_append, hx]; rfl) ?_ (CVc_app (CVc_L (by rw [List.length_append]; omega) _ _ _ e4) cv 25 (CVc_L (by rw [List.length_append]; omega) _ _ _ (CVc_put _ _ _ (fun c j hc' h1 h2 => e8 _ _ (by unfold CKF LUF SGF; omega)) hcv))) (by omega) (by omega) (by rw [e5, hlen]) (by rw [hlen]; omega) ?_ ⟨by rw [hq _ _ (by decide) (by decide), ht0.1], by rw [hq _ _ (by decide) (by decide), ht0.2.1], by rw [hq _ _ (by decide) (by decide), ht0.2.2]⟩
      · rw [hcst, hcva]
        rw [List.append_assoc, List.append_assoc] at hI2
        cases hr : ckA env' (sg ++ sg2) (lo ++ lo') r with
        | error p =>
          rw [hr] at hI2
          obtain ⟨s', g1, g2⟩ := hI2
          exact ⟨s', e1.trans g1, (e8.mono (fun _ _ h => CKF_G h)).tr g2⟩
        | ok z =>
          obtain ⟨sg3, lo3⟩ := z
          rw [hr] at hI2
          obtain ⟨s', g1, g2, g3⟩ := hI2
          rw [Nat.add_assoc] at g2
          exact ⟨s', e1.trans g1, g2, (e8.mono (fun _ _ h => CKF_G h)).tr g3⟩
      · intro j x hj
        by_cases hjk : j < xs.length
        · rw [List.getElem?_append_left hjk] at hj
          refine XS_put (hX j x hj) (by omega) (fun q h1 h2 => e8 _ _ (by unfold CKF LUF SGF; omega)) (fun c j' hc' h1 h2 => e8 _ _ (by unfold CKF LUF SGF; omega)) (fun j' hj' => e8 _ _ (by unfold CKF LUF SGF; omega)) (fun j' => hq _ _ (by decide) (by decide))
        · rw [List.getElem?_append_right (by omega)] at hj
          have hj0 : j = k := by
            have := (List.getElem?_eq_some_iff.mp hj).1
            have : j - xs.length < 1 := this
            omega
          subst hj0
          rw [hx, Nat.sub_self] at hj
          injection hj with hj
          subst hj
          exact e3
      · rw [List.flatMap_append, ← hlo]
        simp
