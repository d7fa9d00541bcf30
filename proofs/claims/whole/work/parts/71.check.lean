/-! THE DOCUMENT: the check of names, types and directions -/
/-- a ground signal: kind, name, ~ (0 or 1), width said, the expression of a node -/
abbrev Sg : Type := Nat × Nat × Nat × Nat × Jvm.Term
/-- a step: 0 connect, 1 to 3 as in It; the sink; the expression -/
abbrev Lo : Type := Nat × Nat × Jvm.Term
def sgOf (k nm : Nat) (t : Jvm.Term) : List Sg := (List.range (tsz t)).map fun i => (k, nm, (lf t i 0).2 % 2, (lf t i 0).1, .null)
def eUp (env : EnvT) (nm : Nat) (x : Jvm.Term × Nat) : EnvT := fun d => if d = nm then some x else env d
def skA (sg : List Sg) (g : Nat) : Prop := ∃ x, sg[g]? = some x ∧ isSk x.1 x.2.2.1
/-- the pairs of a connection of bundles or vectors -/
def prs (ty : Jvm.Term) (to fr : Nat) : List (Nat × Nat) := (List.range (tsz ty)).map fun k => if (lf ty k 0).2 % 2 = 1 then (fr + k, to + k) else (to + k, fr + k)
noncomputable def cnG (env : EnvT) (sg : List Sg) (to : Nat) (e : Jvm.Term) : Option (List Lo) :=
  match rE env e with
  | some e' => @ite _ (skA sg to) (Classical.propDecidable _) (some [(0, to, e')]) none
  | none => none
noncomputable def cnB (env : EnvT) (sg : List Sg) (to : Nat) (ty : Jvm.Term) : Jvm.Term → Option (List Lo)
  | .add (.arg nm) r => match lk env nm r with
    | some (fr, ty2, _) => if isGr ty2 = true then none else if alk ty ty2 = true then
        @ite _ (∀ p, p ∈ prs ty to fr → skA sg p.1) (Classical.propDecidable _) (some ((prs ty to fr).map fun p => (0, p.1, .index p.2))) none
      else none
    | none => none
  | _ => none
noncomputable def cn (env : EnvT) (sg : List Sg) : Jvm.Term → Jvm.Term → Option (List Lo)
  | .add (.arg nm) r, e => match lk env nm r with
    | some (to, ty, _) => if isGr ty = true then cnG env sg to e else cnB env sg to ty e
    | none => none
  | _, _ => none
noncomputable def ck1 (env : EnvT) (sg : List Sg) (i : It) : Option (EnvT × List Sg × List Lo) :=
  if i.1 = 4 then
    if env i.2.2.1 = none ∧ sg.length + tsz i.2.2.2.2.2 ≤ 24 then some (eUp env i.2.2.1 (i.2.2.2.2.2, sg.length), sg ++ sgOf i.2.2.2.1 i.2.2.1 i.2.2.2.2.2, []) else none
  else if i.1 = 5 then
    if env i.2.2.1 = none ∧ sg.length + 1 ≤ 24 then
      match rE env i.2.2.2.2.2 with
      | some e' => some (eUp env i.2.2.1 (tU 0, sg.length), sg ++ [(4, i.2.2.1, 0, 0, e')], [])
      | none => none
    else none
  else if i.1 = 0 then
    match cn env sg i.2.2.2.2.1 i.2.2.2.2.2 with
    | some lo => some (env, sg, lo)
    | none => none
  else if i.1 = 1 then
    match rE env i.2.2.2.2.2 with
    | some e' => some (env, sg, [(1, 0, e')])
    | none => none
  else some (env, sg, [(i.1, 0, .null)])
/-- all of it: the place of the first error, or the signals and the steps -/
noncomputable def ckA : EnvT → List Sg → List Lo → List It → Except Nat (List Sg × List Lo)
  | _, sg, lo, [] => .ok (sg, lo)
  | env, sg, lo, i :: r => match ck1 env sg i with
    | some (env', sg', lo') => ckA env' sg' (lo ++ lo') r
    | none => .error i.2.1
/-! as the reference has it -/
def SGR (s : Mem) (N i : Nat) (x : Sg) : Prop := s 35 i = x.1 ∧ s 36 i = x.2.1 ∧ s 37 i = x.2.2.1 ∧ s 38 i = x.2.2.2.1 ∧ ((x.2.2.2.2 = .null ∧ s 39 i = -1) ∨ (∃ n : Nat, s 39 i = n ∧ RR s x.2.2.2.2 n ∧ n + esz x.2.2.2.2 ≤ N))
def SRC (s : Mem) (N : Nat) (e : Jvm.Term) (v : Int) : Prop := (∃ g : Nat, e = .index g ∧ g < 24 ∧ v = -1 - g) ∨ (∃ n : Nat, v = n ∧ RR s e n ∧ n + esz e ≤ N)
def LOR (s : Mem) (N i : Nat) (x : Lo) : Prop := s 41 i = x.1 ∧ (x.1 = 0 → s 42 i = x.2.1 ∧ x.2.1 < 24 ∧ SRC s N x.2.2 (s 43 i)) ∧ (x.1 = 1 → ∃ n : Nat, s 43 i = n ∧ RR s x.2.2 n ∧ n + esz x.2.2 ≤ N)
def SGs (s : Mem) (N : Nat) (sg : List Sg) : Prop := ∀ i x, sg[i]? = some x → SGR s N i x
def LOs (s : Mem) (N : Nat) (lo : List Lo) : Prop := ∀ i x, lo[i]? = some x → LOR s N i x
theorem RR_low {s s' : Mem} {N : Nat} (h : AR s s' 0 N) {e : Jvm.Term} {n : Nat} (r : RR s e n) (hn : n + esz e ≤ N) : RR s' e n := RR_put r (h.sub (Nat.zero_le _) hn)
theorem SRC_put {s s' : Mem} {N N' : Nat} (hN : N ≤ N') (h : AR s s' 0 N) {e : Jvm.Term} {v : Int} (r : SRC s N e v) : SRC s' N' e v := r.imp id (fun ⟨n, h1, h2, h3⟩ => ⟨n, h1, RR_low h h2 h3, Nat.le_trans h3 hN⟩)
theorem SGR_put {s s' : Mem} {N N' i : Nat} {x : Sg} (hN : N ≤ N') (h : AR s s' 0 N) (hc : ∀ c, 35 ≤ c ∧ c ≤ 39 → s' c i = s c i) (r : SGR s N i x) : SGR s' N' i x := by
  obtain ⟨h1, h2, h3, h4, h5⟩ := r
  refine ⟨by rw [hc _ (by decide), h1], by rw [hc _ (by decide), h2], by rw [hc _ (by decide), h3], by rw [hc _ (by decide), h4], ?_⟩
  rw [hc 39 (by decide)]
  exact h5.imp id (fun ⟨n, h1, h2, h3⟩ => ⟨n, h1, RR_low h h2 h3, Nat.le_trans h3 hN⟩)
theorem LOR_put {s s' : Mem} {N N' i : Nat} {x : Lo} (hN : N ≤ N') (h : AR s s' 0 N) (hc : ∀ c, 41 ≤ c ∧ c ≤ 43 → s' c i = s c i) (r : LOR s N i x) : LOR s' N' i x := by
  obtain ⟨h1, h2, h3⟩ := r
  refine ⟨by rw [hc _ (by decide), h1], fun z => ?_, fun z => ?_⟩
  · obtain ⟨g1, g2, g3⟩ := h2 z
    exact ⟨by rw [hc _ (by decide), g1], g2, by rw [hc _ (by decide)]; exact SRC_put hN h g3⟩
  · obtain ⟨n, g1, g2, g3⟩ := h3 z
    exact ⟨n, by rw [hc _ (by decide), g1], RR_low h g2 g3, Nat.le_trans g3 hN⟩
theorem SGs_put {s s' : Mem} {N N' : Nat} {sg : List Sg} (hN : N ≤ N') (h : AR s s' 0 N) (hc : ∀ c i, 35 ≤ c ∧ c ≤ 39 → i < sg.length → s' c i = s c i) (r : SGs s N sg) : SGs s' N' sg := fun i x hi => SGR_put hN h (fun c z => hc c i z (List.getElem?_eq_some_iff.mp hi).1) (r i x hi)
theorem LOs_put {s s' : Mem} {N N' : Nat} {lo : List Lo} (hN : N ≤ N') (h : AR s s' 0 N) (hc : ∀ c i, 41 ≤ c ∧ c ≤ 43 → i < lo.length → s' c i = s c i) (r : LOs s N lo) : LOs s' N' lo := fun i x hi => LOR_put hN h (fun c z => hc c i z (List.getElem?_eq_some_iff.mp hi).1) (r i x hi)
theorem SGs_app {s : Mem} {N : Nat} {a b : List Sg} (h : SGs s N a) (g : ∀ i x, b[i]? = some x → SGR s N (a.length + i) x) : SGs s N (a ++ b) := by
  intro i x hi
  by_cases h1 : i < a.length
  · rw [List.getElem?_append_left h1] at hi
    exact h i x hi
  · rw [List.getElem?_append_right (by omega)] at hi
    have := g _ _ hi
    rw [show a.length + (i - a.length) = i by omega] at this
    exact this
theorem LOs_app {s : Mem} {N : Nat} {a b : List Lo} (h : LOs s N a) (g : ∀ i x, b[i]? = some x → LOR s N (a.length + i) x) : LOs s N (a ++ b) := by
  intro i x hi
  by_cases h1 : i < a.length
  · rw [List.getElem?_append_left h1] at hi
    exact h i x hi
  · rw [List.getElem?_append_right (by omega)] at hi
    have := g _ _ hi
    rw [show a.length + (i - a.length) = i by omega] at this
    exact this
/-- what a step of the check may write; the nodes looked up lie from a up to b -/
def CF (a b k j : Nat) : Prop := (k = 0 ∧ (j = 50 ∨ j = 51 ∨ j = 52 ∨ j = 53 ∨ j = 57 ∨ j = 58)) ∨ (32 ≤ k ∧ k ≤ 34) ∨ (35 ≤ k ∧ k ≤ 39 ∧ j < 24) ∨ (41 ≤ k ∧ k ≤ 43 ∧ j < 1100) ∨ k = 22 ∨ (k = 15 ∧ a ≤ j ∧ j < b)
theorem CF_sub {a b c d k j : Nat} (h1 : a ≤ c) (h2 : d ≤ b) (h : CF c d k j) : CF a b k j := by
  rcases h with h | h | h | h | h | h
  · exact Or.inl h
  · exact Or.inr (Or.inl h)
  · exact Or.inr (Or.inr (Or.inl h))
  · exact Or.inr (Or.inr (Or.inr (Or.inl h)))
  · exact Or.inr (Or.inr (Or.inr (Or.inr (Or.inl h))))
  · exact Or.inr (Or.inr (Or.inr (Or.inr (Or.inr ⟨h.1, by omega, by omega⟩))))
theorem FND_CF {a b k j : Nat} (h : FND k j) : CF a b k j := Or.inl ⟨h.1, h.2.elim (fun z => Or.inr (Or.inl z)) (fun z => z.elim (fun z => Or.inr (Or.inr (Or.inl z))) (fun z => Or.inr (Or.inr (Or.inr (Or.inl z)))))⟩
theorem FST_CF {a b k j : Nat} (h : FST a b k j) : CF a b k j := h.elim FND_CF (fun z => Or.inr (Or.inr (Or.inr (Or.inr (Or.inr z)))))
theorem WO_CF {a b k j : Nat} (h : WO k j) : CF a b k j := Or.inr (Or.inr (Or.inr (Or.inr (Or.inl h))))
theorem CF_no {a b k j : Nat} (h : (1 ≤ k ∧ k ≤ 14) ∨ (16 ≤ k ∧ k ≤ 21) ∨ (23 ≤ k ∧ k ≤ 31) ∨ k = 40 ∨ 44 ≤ k) : ¬ CF a b k j := by unfold CF; omega
theorem CF_no0 {a b j : Nat} (h : j ≠ 50 ∧ j ≠ 51 ∧ j ≠ 52 ∧ j ≠ 53 ∧ j ≠ 57 ∧ j ≠ 58) : ¬ CF a b 0 j := by unfold CF; omega
theorem CF_noA {a b j : Nat} (h : j < a ∨ b ≤ j) : ¬ CF a b 15 j := by unfold CF; omega
theorem RI_cf {s s' : Mem} {a b k n n' M C : Nat} {i : It} (h : Fr (CF a b) s s') (hn : b ≤ n) (r : RI s k n n' M C i) : RI s' k n n' M C i := by
  obtain ⟨r1, r2, r3⟩ := r
  have g : ∀ c, 25 ≤ c ∧ c ≤ 31 → s' c k = s c k := fun c hc => h _ _ (CF_no (by omega))
  have ga : ∀ x y, b ≤ x → AG s s' x y := fun x y hx => ⟨fun c j hc h1 h2 => by
    by_cases hc2 : c = 15
    · subst hc2
      exact h _ _ (CF_noA (Or.inr (by omega)))
    · exact h _ _ (CF_no (by omega)), fun j h1 h2 => h _ _ (CF_no (by omega))⟩
  refine ⟨by rw [g _ (by decide), r1], by rw [g _ (by decide), r2], ?_⟩
  rcases r3 with ⟨q, a, b, x, r, e1, e2, e3, e4, e5, e6, e7, e8⟩ | ⟨q, b, e1, e2, e3, e4⟩ | q | q | ⟨q, e1, e2, e3, e4, t, e5, e6⟩ | ⟨q, e1, e2, e3, e4, b, e5, e6, e7, e8⟩
  · exact Or.inl ⟨q, a, b, x, r, by rw [g _ (by decide), e1], by rw [g _ (by decide), e2], e3, RE_put e4 (ga _ _ (by omega)), e5, e6, RE_put e7 (ga _ _ (by omega)), e8⟩
  · exact Or.inr (Or.inl ⟨q, b, by rw [g _ (by decide), e1], e2, RE_put e3 (ga _ _ (by omega)), e4⟩)
  · exact Or.inr (Or.inr (Or.inl q))
  · exact Or.inr (Or.inr (Or.inr (Or.inl q)))
  · exact Or.inr (Or.inr (Or.inr (Or.inr (Or.inl ⟨q, by rw [g _ (by decide), e1], e2, by rw [g _ (by decide), e3], e4, t, by rw [g _ (by decide), e5], RT_put (fun k j z => h _ _ (CF_no (by omega))) e6⟩))))
  · exact Or.inr (Or.inr (Or.inr (Or.inr (Or.inr ⟨q, by rw [g _ (by decide), e1], e2, by rw [g _ (by decide), e3], e4, b, by rw [g _ (by decide), e5], e6, RE_put e7 (ga _ _ (by omega)), e8⟩))))
theorem RIs_cf {s s' : Mem} {a b N M C : Nat} (h : Fr (CF a b) s s') : ∀ (l : List It) (k n : Nat), b ≤ n → RIs s N M C k n l → RIs s' N M C k n l
  | [], _, _, _, r => r
  | _ :: l, k, n, hn, ⟨n', h1, h2, h3⟩ => ⟨n', h1, RI_cf h hn h2, RIs_cf h l (k + 1) n' (by omega) h3⟩
theorem CF_AR {s s' : Mem} {a b : Nat} (h : Fr (CF a b) s s') : AR s s' 0 a := fun c j hc h1 h2 => by
  by_cases hc2 : c = 15
  · subst hc2
    exact h _ _ (CF_noA (Or.inl h2))
  · exact h _ _ (CF_no (by omega))
/-- the nodes from n up to m, one expression behind the other; none is a name that is not looked up there -/
def CVs (s : Mem) : Nat → List (Option Jvm.Term) → Nat → Prop
  | n, [], m => n = m
  | n, none :: r, m => s 12 n = 0 ∧ s 15 n = -1 ∧ CVs s (n + 1) r m
  | n, some e :: r, m => RR s e n ∧ CVs s (n + esz e) r m
theorem CVs_le {s : Mem} : ∀ (l : List (Option Jvm.Term)) (n m : Nat), CVs s n l m → n ≤ m
  | [], _, _, h => Nat.le_of_eq h
  | none :: r, n, m, h => by have := CVs_le r (n + 1) m h.2.2; omega
  | some e :: r, n, m, h => by have := CVs_le r (n + esz e) m h.2; omega
theorem CVs_put {s s' : Mem} : ∀ (l : List (Option Jvm.Term)) (n m : Nat), AR s s' n m → CVs s n l m → CVs s' n l m
  | [], _, _, _, h => h
  | none :: r, n, m, a, h => by
    have := CVs_le r (n + 1) m h.2.2
    exact ⟨by rw [a _ _ (by decide) (by omega) (by omega)]; exact h.1, by rw [a _ _ (by decide) (by omega) (by omega)]; exact h.2.1, CVs_put r (n + 1) m (a.sub (by omega) (by omega)) h.2.2⟩
  | some e :: r, n, m, a, h => by
    have := CVs_le r (n + esz e) m h.2
    exact ⟨RR_put h.1 (a.sub (by omega) (by omega)), CVs_put r (n + esz e) m (a.sub (by omega) (by omega)) h.2⟩
theorem CVs_app {s : Mem} {b c : Nat} {r : List (Option Jvm.Term)} (hr : CVs s b r c) : ∀ (l : List (Option Jvm.Term)) (a : Nat), CVs s a l b → CVs s a (l ++ r) c
  | [], a, h => by
    have h : a = b := h
    subst h
    exact hr
  | none :: l, a, h => ⟨h.1, h.2.1, CVs_app hr l (a + 1) h.2.2⟩
  | some e :: l, a, h => ⟨h.1, CVs_app hr l (a + esz e) h.2⟩
/-- the expressions of an item, by its nodes -/
def cvR (env : EnvT) : Jvm.Term → Jvm.Term → Option Jvm.Term
  | .add (.arg nm) r, e => match lk env nm r with
    | some (_, ty, _) => if isGr ty = true then rE env e else none
    | none => none
  | _, _ => none
def cv1 (env : EnvT) (i : It) : List (Option Jvm.Term) := if i.1 = 5 ∨ i.1 = 1 then [rE env i.2.2.2.2.2] else if i.1 = 0 then [none, cvR env i.2.2.2.2.1 i.2.2.2.2.2] else []
/-- the environment's places lie below L -/
def eOK (env : EnvT) (L : Nat) : Prop := ∀ d t b, env d = some (t, b) → b + tsz t ≤ L ∧ dpt t ≤ 9 ∧ 1 ≤ tsz t
theorem fnd_ok {k : Nat} {fs : Jvm.Term} {o b : Nat} {t : Jvm.Term} (h : fnd k fs = some (o, b, t)) : dpt t ≤ dpt fs := by
  fun_induction fnd k fs generalizing o b t with
  | case1 bk ty r => 
    cases h
    simp only [dpt]
    omega
  | case2 nm bk ty r hn o' b' t' he ih =>
    cases h
    have := ih he
    simp only [dpt]
    omega
  | case3 => exact (nomatch h)
  | case4 => exact (nomatch h)
theorem rsv_ok {r t t' : Jvm.Term} {a f g f' : Nat} (h : rsv r a t f = some (g, t', f')) : g + tsz t' ≤ a + tsz t ∧ dpt t' ≤ dpt t := by
  fun_induction rsv r a t f with
  | case1 k r i fs f hk o b ty he ih =>
    have h1 := ih h
    have h2 := fnd_le he
    have h3 := fnd_ok he
    simp only [tsz, dpt]
    omega
  | case2 => exact (nomatch h)
  | case3 => exact (nomatch h)
  | case4 => exact (nomatch h)
  | case5 k r i w ty f hk hkw ih =>
    have h1 := ih h
    have hb2 : (k - 100) * tsz ty + tsz ty ≤ w * tsz ty := by
      rw [← Nat.succ_mul]
      exact Nat.mul_le_mul_right _ (by omega)
    simp only [tsz, dpt]
    omega
  | case6 => exact (nomatch h)
  | case7 => exact (nomatch h)
  | case8 => cases h; exact ⟨Nat.le_refl _, Nat.le_refl _⟩
theorem lk_ok {env : EnvT} {L nm g f : Nat} {r t : Jvm.Term} (hE : eOK env L) (h : lk env nm r = some (g, t, f)) : g + tsz t ≤ L ∧ dpt t ≤ 9 := by
  unfold lk at h
  split at h
  next t0 b he =>
    obtain ⟨h1, h2, h3⟩ := hE _ _ _ he
    obtain ⟨h4, h5⟩ := rsv_ok h
    omega
  next => exact (nomatch h)
