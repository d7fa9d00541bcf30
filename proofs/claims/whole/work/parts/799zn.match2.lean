/-- the nodes from n up to m: expressions, and names alone (none) -/
def CVc (s : Mem) (o L : Nat) : Nat → List (Option Jvm.Term) → Nat → Prop
  | n, [], m => n = m
  | n, none :: r, m => s (67 + o) n = 5 ∧ (∃ g : Nat, s (68 + o) n = g ∧ g < L) ∧ CVc s o L (n + 1) r m
  | n, some e :: r, m => CR s o e n ∧ CVc s o L (n + esz e) r m
theorem CVc_le {s : Mem} {o L : Nat} : ∀ (l : List (Option Jvm.Term)) (n m : Nat), CVc s o L n l m → n ≤ m
  | [], _, _, h => Nat.le_of_eq h
  | none :: r, n, m, h => by have := CVc_le r _ _ h.2.2; omega
  | some e :: r, n, m, h => by have := CVc_le r _ _ h.2; omega
theorem CVc_put {s s' : Mem} {o L : Nat} : ∀ (l : List (Option Jvm.Term)) (n m : Nat), AN o s s' n m → CVc s o L n l m → CVc s' o L n l m
  | [], _, _, _, h => h
  | none :: r, n, m, g, h => by
    have := CVc_le r _ _ h.2.2
    obtain ⟨h1, ⟨q, h2, h3⟩, h4⟩ := h
    exact ⟨by rw [g _ _ (by decide) (by omega) (by omega), h1], ⟨q, by rw [g _ _ (by decide) (by omega) (by omega), h2], h3⟩, CVc_put r _ _ (g.sub (by omega) (Nat.le_refl _)) h4⟩
  | some e :: r, n, m, g, h => by
    have := CVc_le r _ _ h.2
    have := esz_pos e
    exact ⟨CR_put h.1 (g.sub (Nat.le_refl _) (by omega)), CVc_put r _ _ (g.sub (by omega) (Nat.le_refl _)) h.2⟩
theorem CVc_app {s : Mem} {o L b c : Nat} {r : List (Option Jvm.Term)} (hr : CVc s o L b r c) : ∀ (l : List (Option Jvm.Term)) (a : Nat), CVc s o L a l b → CVc s o L a (l ++ r) c
  | [], a, h => by
    have : a = b := h
    rw [this]
    exact hr
  | none :: l, a, h => ⟨h.1, h.2.1, CVc_app hr l _ h.2.2⟩
  | some e :: l, a, h => ⟨h.1, CVc_app hr l _ h.2⟩
theorem CVc_L {s : Mem} {o L L' : Nat} (h : L ≤ L') : ∀ (l : List (Option Jvm.Term)) (n m : Nat), CVc s o L n l m → CVc s o L' n l m
  | [], _, _, c => c
  | none :: r, _, _, ⟨h1, ⟨g, h2, h3⟩, h4⟩ => ⟨h1, ⟨g, h2, Nat.lt_of_lt_of_le h3 h⟩, CVc_L h r _ _ h4⟩
  | some _ :: r, _, _, ⟨h1, h2⟩ => ⟨h1, CVc_L h r _ _ h2⟩
theorem LUF_AN {s s' : Mem} {o a b c d : Nat} (f : Fr (LUF o a b) s s') (h : d ≤ a ∨ b ≤ c) : AN o s s' c d := fun k j hk h1 h2 => f _ _ (by unfold LUF; omega)
theorem alk_size : ∀ (m : Nat) (t u : Jvm.Term), tnz t ≤ m → alk t u = true → tsz t = tsz u := by
  intro m
  induction m with
  | zero =>
    intro t u hm
    have : 1 ≤ tnz t := by unfold tnz; split <;> omega
    omega
  | succ m ih =>
    intro t u hm h
    unfold alk at h
    split at h
    · rfl
    next n t m' u =>
      simp only [Bool.and_eq_true, decide_eq_true_eq] at h
      obtain ⟨h1, h2⟩ := h
      subst h1
      simp only [tsz]
      rw [ih t u (by simp only [tnz] at hm; omega) h2]
    next a b => exact ih a b (by simp only [tnz] at hm; omega) h
    next n b t r n' b' t' r' =>
      simp only [Bool.and_eq_true, decide_eq_true_eq] at h
      simp only [tnz] at hm
      simp only [tsz]
      rw [ih t t' (by omega) h.2.1, ih r r' (by omega) h.2.2]
    · rfl
    · cases h
theorem mtc_ne {env : EnvT} {nm to fl : Nat} {r ty e : Jvm.Term} (hq : lk env nm r = some (to, ty, fl)) (hne : ∀ nm2 r2, e ≠ .add (.arg nm2) r2) : mtc env (.add (.arg nm) r) e = if isGr ty = true then (match rE env e with
        | some e' => some [(0, to, e')]
        | none => none) else none := by
  rw [mtc, hq]
  dsimp only
  split
  next nm2 r2 => exact absurd rfl (hne nm2 r2)
  next => rfl
theorem CR_root {s : Mem} {o : Nat} {e : Jvm.Term} {n : Nat} : CR s o e n → (∃ g, e = .index g) ∨ ¬ s (67 + o) (n + esz e - 1) = 5 := by
  fun_cases CR s o e n with
  | case1 a =>
    rintro ⟨h1, -⟩
    refine Or.inr ?_
    simp only [esz]
    rw [show n + (1 + esz a) - 1 = n + esz a by omega, h1]
    decide
  | case2 h l a =>
    rintro ⟨h1, -⟩
    refine Or.inr ?_
    simp only [esz]
    rw [show n + (1 + esz a) - 1 = n + esz a by omega, h1]
    decide
  | case3 c a b =>
    rintro ⟨h1, h2, -⟩
    refine Or.inr ?_
    simp only [esz]
    rw [show n + (1 + esz a + esz b) - 1 = n + esz a + esz b by omega, h1]
    unfold two at h2
    omega
  | case4 c a b =>
    rintro ⟨h1, -⟩
    refine Or.inr ?_
    simp only [esz]
    rw [show n + (1 + esz c + esz a + esz b) - 1 = n + esz c + esz a + esz b by omega, h1]
    decide
  | case5 g => exact fun _ => Or.inl ⟨g, rfl⟩
  | case6 v =>
    rintro ⟨h1, -⟩
    refine Or.inr ?_
    show ¬ s (67 + o) n = 5
    rw [h1]
    decide
  | case7 => exact fun h => h.elim
theorem rE_index {env : EnvT} {e : Jvm.Term} {g : Nat} (h : rE env e = some (.index g)) : ∃ nm r, e = .add (.arg nm) r := by
  revert h
  fun_cases rE env e <;> intro h <;> first | exact ⟨_, _, rfl⟩ | (exfalso; cases h) | (exfalso; injection h with h; cases h)
theorem k_matches {d o P U C k n : Nat} {env : EnvT} {sg : List Sg} {l e : Jvm.Term} {s : Mem} (hd : 7 ≤ d) (hK : KCc s o U C env sg) (hP : P ≤ 200) (hk : s 127 k = n) (hk2 : s 128 k = ((n + esz e : Nat) : Int)) (hlx : ∃ x r, l = eRef x r) (hl : CE s o P l n) (he : CE s o P e (n + 1)) (hn : 25 ≤ n) (hn2 : n + 1 + esz e ≤ 225) :
    match mtc env l e with
    | some lo => ∃ s', Zc d 87 [aR 133, aI n, aI ((n + esz e : Nat) : Int)] s = rI 1 s' ∧ PRS s' o k (n + 1 + esz e) sg.length lo ∧ CVc s' o sg.length n [none, cvR env l e] (n + 1 + esz e) ∧ Fr (LUF o n (n + 1 + esz e)) s s'
    | none => ∃ s', Zc d 87 [aR 133, aI n, aI ((n + esz e : Nat) : Int)] s = rI 0 s' ∧ Fr (LUF o n (n + 1 + esz e)) s s' := by
  obtain ⟨d, rfl⟩ : ∃ e, d = e + 1 := ⟨d - 1, by omega⟩
  obtain ⟨nm, r, rfl⟩ := hlx
  obtain ⟨l1, l2, l3, l4, a, m, l5, l6, l7, l8⟩ := hl
  have hK' := hK
  obtain ⟨h1, h2, h3, h4, h5, h6, h7, h8, h9, h10, h11⟩ := hK
  have ho := h7.2.2
  have hp := esz_pos e
  have hl := k_lookUp (d := d) (by omega) h11 h10 h9 h7 h1 (show n < 225 by omega) l2 l3 l5 l6 (by omega) l8
  show (match mtc env (.add (.arg nm) r) e with
    | some lo => _
    | none => _)
  cases hq : lk env nm r with
  | none =>
    have hM : mtc env (.add (.arg nm) r) e = none := by rw [mtc, hq]
    rw [hM]
    rw [hq] at hl
    exact ⟨s, mt_F1 (by omega) ho hl, Fr.rf s⟩
  | some y =>
    obtain ⟨to, ty, fl⟩ := y
    rw [hq] at hl
    obtain ⟨q, e1, e2⟩ := hl
    obtain ⟨f1, f2, f3⟩ := lk_flip hK' hq e2
    have z2 := CT_size e2 rfl
    obtain ⟨a1, a2, a3, a4, a5⟩ := luS_at (s := s) (o := o) (n := n) (g := to) (q := q) (fl := fl % 2)
    have F1 : Fr (LUF o n (n + 1)) s (luS s o n to q (fl % 2)) := luS_fr
    have hK1 := KCc_LUF hK' F1
    have he1 : CE (luS s o n to q (fl % 2)) o P e (n + 1) := LUF_CE ho F1 (by omega) he
    have hT1 : CT (luS s o n to q (fl % 2)) true ty q U 0 C 0 := CT_put e2 (fun k j hk => F1 _ _ (by unfold LUF; omega))
    have hst : luS s o n to q (fl % 2) 127 k = n ∧ luS s o n to q (fl % 2) 128 k = ((n + esz e : Nat) : Int) := ⟨by rw [F1 _ _ (by unfold LUF; omega), hk], by rw [F1 _ _ (by unfold LUF; omega), hk2]⟩
    have hfl1 : ∀ j, j < tsz ty → luS s o n to q (fl % 2) (63 + o) (to + j) = (((lf ty j 0).2 + fl) % 2 : Nat) := fun j hj => by rw [F1 _ _ (by unfold LUF; omega)]; exact f3 j hj
    generalize luS s o n to q (fl % 2) = s1 at *
    have hsz : s1 118 q = tsz ty := by
      have := (CT_size hT1 rfl).2.2.1
      rw [Int.toNat_natCast] at this
      rw [this]
      omega
    have F1' : Fr (LUF o n (n + 1 + esz e)) s s1 := F1.mono (fun _ _ h => LUF_le (Nat.le_refl _) (by omega) h)
    rcases CE_root he1 with ⟨nm2, r2, rfl⟩ | ⟨hop, hop5, hne⟩
    · have hz1 : esz (.add (.arg nm2) r2) = 1 := rfl
      rw [hz1] at hn2 hk2 F1' ⊢
      have hst2 : s1 128 k = ((n + 1 : Nat) : Int) := hst.2
      obtain ⟨r1, r2', r3, r4, a', m', r5, r6, r7, r8⟩ := he1
      obtain ⟨g1, g2, g3, g4, g5, g6, g7, g8, g9, g10, g11⟩ := hK1
      have hlb := k_lookUp (d := d) (by omega) g11 g10 g9 g7 g1 (show n + 1 < 225 by omega) r2' r3 r5 r6 (by omega) r8
      cases hq2 : lk env nm2 r2 with
      | none =>
        have hM : mtc env (.add (.arg nm) r) (.add (.arg nm2) r2) = none := by
          rw [mtc, hq]
          dsimp only
          rw [hq2]
        rw [hM]
        rw [hq2] at hlb
        refine ⟨s1, ?_, F1'⟩
        have := mt_ref (v1 := 0) (v2 := 0) (q := q) (q2 := (s1 (69 + o) (n + 1)).toNat) g7 g7 (by omega) (show n + 1 < 225 by omega) e1 r1 hlb (Or.inl rfl) a3 (by rw [r6]; omega) (fun z => by omega) (Or.inl rfl)
        rw [if_neg (by decide)] at this
        exact this
      | some y2 =>
        obtain ⟨fr, ty2, fl2⟩ := y2
        have hM : mtc env (.add (.arg nm) r) (.add (.arg nm2) r2) = if alk ty ty2 = true then some ((prs ty to fr).map fun p => (0, p.1, .index p.2)) else none := by
          rw [mtc, hq]
          dsimp only
          rw [hq2]
        rw [hM]
        rw [hq2] at hlb
        obtain ⟨q2, i1, i2⟩ := hlb
        obtain ⟨b1, b2, b3, b4, b5⟩ := luS_at (s := s1) (o := o) (n := n + 1) (g := fr) (q := q2) (fl := fl2 % 2)
        have F2 : Fr (LUF o (n + 1) (n + 1 + 1)) s1 (luS s1 o (n + 1) fr q2 (fl2 % 2)) := luS_fr
        obtain ⟨j1, j2, j3⟩ := lk_flip ⟨g1, g2, g3, g4, g5, g6, g7, g8, g9, g10, g11⟩ hq2 i2
        have hT2 : CT (luS s1 o (n + 1) fr q2 (fl2 % 2)) true ty q U 0 C 0 := CT_put hT1 (fun k j hk => F2 _ _ (by unfold LUF; omega))
        have hT3 : CT (luS s1 o (n + 1) fr q2 (fl2 % 2)) true ty2 q2 U 0 C 0 := CT_put i2 (fun k j hk => F2 _ _ (by unfold LUF; omega))
        have hl2 : ∀ c j, (c < 67 + o ∨ 70 + o < c ∨ j ≠ n + 1) → luS s1 o (n + 1) fr q2 (fl2 % 2) c j = s1 c j := b5
        have hCH2 := LUF_CHS g7 F2
        generalize luS s1 o (n + 1) fr q2 (fl2 % 2) = s2 at *
        have hal := k_alike (d := d) (q1 := q) (q2 := q2) (by omega) (by rw [hl2 _ _ (by omega), g8]) g10 (by rw [hl2 _ _ (by omega), g9]) g11 hT2 hT3 f2
        have hm := mt_ref (v1 := 1) (v2 := if alk ty ty2 = true then 1 else 0) (q := q) (q2 := q2) g7 hCH2 (by omega) (show n + 1 < 225 by omega) e1 r1 i1 (Or.inr rfl) (by rw [hl2 _ _ (by omega), a3]) b3 (fun _ => hal) (by split <;> simp)
        rw [if_pos rfl] at hm
        have F12 : Fr (LUF o n (n + 1 + 1)) s s2 := F1'.tr (F2.mono (fun _ _ h => LUF_le (by omega) (Nat.le_refl _) h))
        by_cases ha : alk ty ty2 = true
        · rw [if_pos ha] at hm ⊢
          have hszz := alk_size _ ty ty2 (Nat.le_refl _) ha
          refine ⟨s2, hm, ?_, ?_, F12⟩
          · refine ⟨n, n + 1, to, q, fl % 2, by rw [hl2 _ _ (by omega), hst.1], by rw [hl2 _ _ (by omega), hst2], by omega, by rw [hl2 _ _ (by omega), a2], by rw [hl2 _ _ (by omega), a3], by omega, by rw [prsm_len, hl2 _ _ (by omega), hsz], by rw [hl2 _ _ (by omega), a4], by omega, by rw [prsm_len]; omega, by rw [prsm_len]; omega, by rw [hl2 _ _ (by omega), a1], Or.inl ⟨fr, b1, b2, by rw [prsm_len]; omega, fun i x hx => ?_⟩⟩
            obtain ⟨x1, x2⟩ := prsm_get hx
            rw [hl2 _ _ (by omega), hfl1 i x1]
            by_cases hb : (lf ty i 0).2 % 2 = 1
            · rw [if_pos hb] at x2
              subst x2
              exact ⟨rfl, Or.inr ⟨by omega, rfl, rfl⟩⟩
            · rw [if_neg hb] at x2
              subst x2
              exact ⟨rfl, Or.inl ⟨by omega, rfl, rfl⟩⟩
          · have hcv : cvR env (.add (.arg nm) r) (.add (.arg nm2) r2) = if isGr ty = true then some (.index fr) else none := by
              rw [cvR, hq]
              dsimp only
              by_cases hg : isGr ty = true
              · rw [if_pos hg, if_pos hg, rE, hq2]
                dsimp only
                rw [if_pos (by rw [← alk_gr ha]; exact hg)]
              · rw [if_neg hg, if_neg hg]
            have c0 : s2 (67 + o) n = 5 ∧ ∃ g : Nat, s2 (68 + o) n = g ∧ g < sg.length := ⟨by rw [hl2 _ _ (by omega), a1], to, by rw [hl2 _ _ (by omega), a2], by omega⟩
            show CVc s2 o sg.length n [none, cvR env (.add (.arg nm) r) (.add (.arg nm2) r2)] (n + 1 + 1)
            rw [hcv]
            by_cases hg : isGr ty = true
            · rw [if_pos hg]
              exact ⟨c0.1, c0.2, ⟨b1, b2, by omega, by rw [hl2 _ _ (by omega), r4]⟩, rfl⟩
            · rw [if_neg hg]
              exact ⟨c0.1, c0.2, b1, ⟨fr, b2, by omega⟩, rfl⟩
        · rw [if_neg ha] at hm ⊢
          exact ⟨s2, hm, F12⟩
    · rw [mtc_ne hq hne]
      obtain ⟨g1, g2, g3, g4, g5, g6, g7, g8, g9, g10, g11⟩ := hK1
      have hgr := k_isGround (d := d) (by omega) g10 g7 (show n < 225 by omega) a3 hT1
      have hge := k_groundExpr (d := d) (by omega) g10 g11 hP g5 g2 g1 g7 g9 he1 (by omega)
      have hroot : n + 1 + esz e - 1 = n + esz e := by omega
      rw [hroot] at hge hop hop5
      by_cases hg : isGr ty = true
      · rw [if_pos hg] at hgr ⊢
        obtain ⟨w, rfl⟩ := isGr_arg hg
        cases hr : rE env e with
        | none =>
          rw [hr] at hge
          obtain ⟨s2, i1, i2⟩ := hge
          have hme := mt_expr (v1 := 1) (v2 := 0) g7 (show n < 225 by omega) (show n + esz e < 225 by omega) e1 rfl hop hgr (Or.inr rfl) (fun _ => i1) (fun z => by omega) (Or.inl rfl)
          rw [if_pos rfl] at hme
          exact ⟨s2, hme, F1'.tr (i2.mono (fun _ _ h => LUF_le (by omega) (Nat.le_refl _) h))⟩
        | some e' =>
          rw [hr] at hge
          obtain ⟨s2, i1, i2, i3⟩ := hge
          have hme := mt_expr (v1 := 1) (v2 := 1) g7 (show n < 225 by omega) (show n + esz e < 225 by omega) e1 rfl hop hgr (Or.inr rfl) (fun _ => i1) (fun z => by omega) (Or.inr rfl)
          rw [if_pos rfl] at hme
          have hes := rE_esz hr
          have hl2 : ∀ c j, (c < 67 + o ∨ 70 + o < c ∨ j ≤ n) → s2 c j = s1 c j := fun c j hc => i3 _ _ (by unfold LUF; omega)
          have hopr : ¬ s2 (67 + o) (n + esz e) = 5 := by
            intro z
            rcases CR_root i2 with ⟨g, rfl⟩ | hz
            · obtain ⟨nm2, r2, he2⟩ := rE_index hr
              exact hne nm2 r2 he2
            · rw [hes, hroot] at hz
              exact hz z
          refine ⟨s2, hme, ?_, ?_, F1'.tr (i3.mono (fun _ _ h => LUF_le (by omega) (Nat.le_refl _) h))⟩
          · refine ⟨n, n + esz e, to, q, fl % 2, by rw [hl2 _ _ (by omega), hst.1], by rw [hl2 _ _ (by omega), hst.2], by omega, by rw [hl2 _ _ (by omega), a2], by rw [hl2 _ _ (by omega), a3], by omega, by rw [hl2 _ _ (by omega), hsz]; rfl, by rw [hl2 _ _ (by omega), a4], by omega, f1, Nat.le_refl _, by rw [hl2 _ _ (by omega), a1], Or.inr ⟨hopr, e', n + 1, rfl, ?_, i2, by omega, by omega⟩⟩
            rw [hl2 _ _ (by omega)]
            have := hfl1 0 (Nat.lt_succ_self 0)
            rw [Nat.add_zero] at this
            rw [this]
            show ((((0 : Nat) + fl) % 2 : Nat) : Int) = _
            rw [Nat.zero_add]
          · have hcv : cvR env (.add (.arg nm) r) e = some e' := by
              rw [cvR, hq]
              dsimp only
              rw [if_pos hg, hr]
            show CVc s2 o sg.length n [none, cvR env (.add (.arg nm) r) e] (n + 1 + esz e)
            rw [hcv]
            exact ⟨by rw [hl2 _ _ (by omega), a1], ⟨to, by rw [hl2 _ _ (by omega), a2], by have : tsz (.arg w) = 1 := rfl; omega⟩, i2, by rw [hes]; rfl⟩
      · rw [if_neg hg] at hgr ⊢
        have hme := mt_expr (v1 := 0) (v2 := 0) g7 (show n < 225 by omega) (show n + esz e < 225 by omega) e1 rfl hop hgr (Or.inl rfl) (fun z => by omega) (fun _ => rfl) (Or.inl rfl)
        rw [if_neg (by decide)] at hme
        exact ⟨s1, hme, F1'⟩
