theorem igr_old {d o P M C root : Nat} {env : EnvT} {a : Jvm.Term} (hr : root < 225) (ih : IGR d o P M C root env a) : IGR d o P M C root env (.old a) := by
  intro n s h hE hCH hf hz
  have ho := hCH.2.2
  have hp := esz_pos a
  obtain ⟨h1, h2, h3, h4⟩ := h
  have he : esz (.old a) = esz a + 1 := by simp only [esz]; omega
  rw [he] at hz ⊢
  have hI := ih n s h4 hE hCH hf (by omega)
  rw [rE]
  cases hx : rE env a with
  | none =>
    rw [hx] at hI
    obtain ⟨s', e1, e2⟩ := hI
    exact ⟨s', e1, e2.mono (fun _ _ h => LUF_le (Nat.le_refl _) (by omega) h)⟩
  | some a' =>
    rw [hx] at hI
    obtain ⟨s', e1, e2, e3⟩ := hI
    have hq : ∀ k, 67 ≤ k → k ≤ 71 → s' (k + o) (n + esz a) = s (k + o) (n + esz a) := fun k hk hk2 => e3 _ _ (by unfold LUF; omega)
    have hz2 := rE_esz hx
    refine ⟨s', ?_, ?_, e3.mono (fun _ _ h => LUF_le (Nat.le_refl _) (by omega) h)⟩
    · rw [e1, ig_skip (LUF_CHS hCH e3) hr (by omega) (by rw [hq _ (by decide) (by decide), h1]; decide), Nat.add_assoc]
    · show s' (67 + o) (n + esz a') = 33 ∧ _
      rw [hz2]
      exact ⟨by rw [hq _ (by decide) (by decide), h1], by rw [hq _ (by decide) (by decide), h2], by rw [hq _ (by decide) (by decide), h3], e2⟩
theorem igr_mul {d o P M C root : Nat} {env : EnvT} {x a : Jvm.Term} (hr : root < 225) (ih : IGR d o P M C root env a) : IGR d o P M C root env (.mul x a) := by
  intro n s h hE hCH hf hz
  have ho := hCH.2.2
  have hp := esz_pos a
  have hshape : ∃ p q : Nat, x = .add (.arg p) (.arg q) := by
    revert h
    generalize hxa : Jvm.Term.mul x a = y
    fun_cases CE s o P y n with
    | case2 p q a => injection hxa with e1 e2; exact fun _ => ⟨p, q, e1⟩
    | case1 => cases hxa
    | case3 => cases hxa
    | case4 => cases hxa
    | case5 => cases hxa
    | case6 => cases hxa
    | case7 => exact fun h => h.elim
  obtain ⟨p, q, rfl⟩ := hshape
  obtain ⟨h1, h2, h3, h4, h5, h6, h7⟩ := h
  have he : esz (.mul (.add (.arg p) (.arg q)) a) = esz a + 1 := by simp only [esz]; omega
  rw [he] at hz ⊢
  have hI := ih n s h7 hE hCH hf (by omega)
  rw [rE]
  cases hx : rE env a with
  | none =>
    rw [hx] at hI
    obtain ⟨s', e1, e2⟩ := hI
    exact ⟨s', e1, e2.mono (fun _ _ h => LUF_le (Nat.le_refl _) (by omega) h)⟩
  | some a' =>
    rw [hx] at hI
    obtain ⟨s', e1, e2, e3⟩ := hI
    have hq : ∀ k, 67 ≤ k → k ≤ 71 → s' (k + o) (n + esz a) = s (k + o) (n + esz a) := fun k hk hk2 => e3 _ _ (by unfold LUF; omega)
    have hz2 := rE_esz hx
    refine ⟨s', ?_, ?_, e3.mono (fun _ _ h => LUF_le (Nat.le_refl _) (by omega) h)⟩
    · rw [e1, ig_skip (LUF_CHS hCH e3) hr (by omega) (by rw [hq _ (by decide) (by decide), h1]; decide), Nat.add_assoc]
    · show s' (67 + o) (n + esz a') = 84 ∧ _
      rw [hz2]
      exact ⟨by rw [hq _ (by decide) (by decide), h1], by rw [hq _ (by decide) (by decide), h2], by rw [hq _ (by decide) (by decide), h3], by rw [hq _ (by decide) (by decide), h4], h5, by rw [hq _ (by decide) (by decide), h6], e2⟩
theorem igr_div {d o P M C root : Nat} {env : EnvT} {c a b : Jvm.Term} (hr : root < 225) (iha : IGR d o P M C root env a) (ihb : IGR d o P M C root env b) : IGR d o P M C root env (.div c (.rem a b)) := by
  intro n s h hE hCH hf hz
  have ho := hCH.2.2
  have hp := esz_pos a
  have hp2 := esz_pos b
  have hshape : ∃ p : Nat, c = .arg p := by
    revert h
    generalize hxa : Jvm.Term.div c (.rem a b) = y
    fun_cases CE s o P y n with
    | case3 p a b => injection hxa with e1 e2; exact fun _ => ⟨p, e1⟩
    | case1 => cases hxa
    | case2 => cases hxa
    | case4 => cases hxa
    | case5 => cases hxa
    | case6 => cases hxa
    | case7 => exact fun h => h.elim
  obtain ⟨p, rfl⟩ := hshape
  obtain ⟨h1, h2, h3, h4, h5, h6, h7⟩ := h
  have he : esz (.div (.arg p) (.rem a b)) = esz a + esz b + 1 := by simp only [esz]; omega
  rw [he] at hz ⊢
  have hI := iha n s h6 hE hCH hf (by omega)
  rw [rE]
  cases hx : rE env a with
  | none =>
    rw [hx] at hI
    obtain ⟨s', e1, e2⟩ := hI
    exact ⟨s', e1, e2.mono (fun _ _ h => LUF_le (Nat.le_refl _) (by omega) h)⟩
  | some a' =>
    rw [hx] at hI
    obtain ⟨s1, e1, e2, e3⟩ := hI
    have f1 : s1 114 10 = C := by rw [e3 _ _ (by unfold LUF; omega), hf]
    have hI2 := ihb (n + esz a) s1 (LUF_CE ho e3 (by omega) h7) (LUF_EC ho hE e3) (LUF_CHS hCH e3) f1 (by omega)
    cases hy : rE env b with
    | none =>
      rw [hy] at hI2
      obtain ⟨s', g1, g2⟩ := hI2
      exact ⟨s', e1.trans g1, (e3.mono (fun _ _ h => LUF_le (Nat.le_refl _) (by omega) h)).tr (g2.mono (fun _ _ h => LUF_le (by omega) (by omega) h))⟩
    | some b' =>
      rw [hy] at hI2
      obtain ⟨s2, g1, g2, g3⟩ := hI2
      have hq : ∀ k, 67 ≤ k → k ≤ 71 → s2 (k + o) (n + esz a + esz b) = s (k + o) (n + esz a + esz b) := fun k hk hk2 => by rw [g3 _ _ (by unfold LUF; omega), e3 _ _ (by unfold LUF; omega)]
      have hz2 := rE_esz hx
      have hz3 := rE_esz hy
      refine ⟨s2, ?_, ?_, (e3.mono (fun _ _ h => LUF_le (Nat.le_refl _) (by omega) h)).tr (g3.mono (fun _ _ h => LUF_le (by omega) (by omega) h))⟩
      · rw [e1, g1, ig_skip (LUF_CHS (LUF_CHS hCH e3) g3) hr (by omega) (by rw [hq _ (by decide) (by decide), h1]; unfold two at h2; omega)]
        rw [show n + (esz a + esz b + 1) = n + esz a + esz b + 1 by omega]
      · show s2 (67 + o) (n + esz a' + esz b') = p ∧ _
        rw [hz2, hz3]
        exact ⟨by rw [hq _ (by decide) (by decide), h1], h2, by rw [hq _ (by decide) (by decide), h3], by rw [hq _ (by decide) (by decide), h4], by rw [hq _ (by decide) (by decide), h5], LUF_CR g3 (by omega) e2, g2⟩
theorem igr_sub {d o P M C root : Nat} {env : EnvT} {c a b : Jvm.Term} (hr : root < 225) (ihc : IGR d o P M C root env c) (iha : IGR d o P M C root env a) (ihb : IGR d o P M C root env b) : IGR d o P M C root env (.sub c (.rem a b)) := by
  intro n s h hE hCH hf hz
  have ho := hCH.2.2
  have hp := esz_pos a
  have hp2 := esz_pos b
  have hp3 := esz_pos c
  obtain ⟨h1, h2, h3, h4, h5, h6, h7, h8⟩ := h
  have he : esz (.sub c (.rem a b)) = esz c + esz a + esz b + 1 := by simp only [esz]; omega
  rw [he] at hz ⊢
  have hI := ihc n s h6 hE hCH hf (by omega)
  rw [rE]
  cases hw : rE env c with
  | none =>
    rw [hw] at hI
    obtain ⟨s', e1, e2⟩ := hI
    exact ⟨s', e1, e2.mono (fun _ _ h => LUF_le (Nat.le_refl _) (by omega) h)⟩
  | some c' =>
    rw [hw] at hI
    obtain ⟨s0, i1, i2, i3⟩ := hI
    have f0 : s0 114 10 = C := by rw [i3 _ _ (by unfold LUF; omega), hf]
    have hI1 := iha (n + esz c) s0 (LUF_CE ho i3 (by omega) h7) (LUF_EC ho hE i3) (LUF_CHS hCH i3) f0 (by omega)
    cases hx : rE env a with
    | none =>
      rw [hx] at hI1
      obtain ⟨s', g1, g2⟩ := hI1
      exact ⟨s', i1.trans g1, (i3.mono (fun _ _ h => LUF_le (Nat.le_refl _) (by omega) h)).tr (g2.mono (fun _ _ h => LUF_le (by omega) (by omega) h))⟩
    | some a' =>
      rw [hx] at hI1
      obtain ⟨s1, e1, e2, e3⟩ := hI1
      have f1 : s1 114 10 = C := by rw [e3 _ _ (by unfold LUF; omega), f0]
      have hI2 := ihb (n + esz c + esz a) s1 (LUF_CE ho e3 (by omega) (LUF_CE ho i3 (by omega) h8)) (LUF_EC ho (LUF_EC ho hE i3) e3) (LUF_CHS (LUF_CHS hCH i3) e3) f1 (by omega)
      cases hy : rE env b with
      | none =>
        rw [hy] at hI2
        obtain ⟨s', g1, g2⟩ := hI2
        exact ⟨s', (i1.trans e1).trans g1, ((i3.mono (fun _ _ h => LUF_le (Nat.le_refl _) (by omega) h)).tr (e3.mono (fun _ _ h => LUF_le (by omega) (by omega) h))).tr (g2.mono (fun _ _ h => LUF_le (by omega) (by omega) h))⟩
      | some b' =>
        rw [hy] at hI2
        obtain ⟨s2, g1, g2, g3⟩ := hI2
        have hq : ∀ k, 67 ≤ k → k ≤ 71 → s2 (k + o) (n + esz c + esz a + esz b) = s (k + o) (n + esz c + esz a + esz b) := fun k hk hk2 => by rw [g3 _ _ (by unfold LUF; omega), e3 _ _ (by unfold LUF; omega), i3 _ _ (by unfold LUF; omega)]
        have hz1 := rE_esz hw
        have hz2 := rE_esz hx
        have hz3 := rE_esz hy
        refine ⟨s2, ?_, ?_, ((i3.mono (fun _ _ h => LUF_le (Nat.le_refl _) (by omega) h)).tr (e3.mono (fun _ _ h => LUF_le (by omega) (by omega) h))).tr (g3.mono (fun _ _ h => LUF_le (by omega) (by omega) h))⟩
        · rw [i1, e1, g1, ig_skip (LUF_CHS (LUF_CHS (LUF_CHS hCH i3) e3) g3) hr (by omega) (by rw [hq _ (by decide) (by decide), h1]; decide)]
          rw [show n + (esz c + esz a + esz b + 1) = n + esz c + esz a + esz b + 1 by omega]
        · show s2 (67 + o) (n + esz c' + esz a' + esz b') = 77 ∧ _
          rw [hz1, hz2, hz3]
          exact ⟨by rw [hq _ (by decide) (by decide), h1], by rw [hq _ (by decide) (by decide), h2], by rw [hq _ (by decide) (by decide), h3], by rw [hq _ (by decide) (by decide), h4], by rw [hq _ (by decide) (by decide), h5], LUF_CR g3 (by omega) (LUF_CR e3 (by omega) i2), LUF_CR g3 (by omega) e2, g2⟩
theorem igr_all {d o P M C L root : Nat} {env : EnvT} (hd : 2 ≤ d) (hM : M ≤ 201) (hC : C ≤ 200) (hP : P ≤ 200) (hr : root < 225) (hL : L ≤ 24) (hOK : eOK env L) (e : Jvm.Term) : IGR d o P M C root env e := by
  fun_induction esz e with
  | case1 a ih => exact igr_old hr ih
  | case2 x a ih => exact igr_mul hr ih
  | case3 c a b iha ihb => exact igr_div hr iha ihb
  | case4 c a b ihc iha ihb => exact igr_sub hr ihc iha ihb
  | case5 e h1 h2 h3 h4 =>
    intro n s h hE hCH hf hn
    have ho := hCH.2.2
    obtain ⟨nm, r, rfl, g1, g2, g3, g4, a, m, g5, g6, g7, g8⟩ | ⟨v, rfl, g1, g2, g3, g4⟩ := CE_leaf h h1 h2 h3 h4
    · have hz : esz (.add (.arg nm) r) = 1 := rfl
      rw [hz] at hn ⊢
      have hl := k_lookUp (d := d) hd hC hM hf hCH hE (show n < 225 by omega) g2 g3 g5 g6 (by omega) g8
      have hrE : rE env (.add (.arg nm) r) = match lk env nm r with
        | some (g, t, _) => if isGr t = true then some (.index g) else none
        | none => none := by rw [rE]; rfl
      rw [hrE]
      cases hq : lk env nm r with
      | none =>
        rw [hq] at hl
        exact ⟨s, ig_refF hCH hr (by omega) g1 hl, Fr.rf s⟩
      | some y =>
        obtain ⟨g, t, fl⟩ := y
        rw [hq] at hl
        obtain ⟨q, i1, i2⟩ := hl
        have hR := ig_ref (d := d) (root := root) hd hCH hM hr (by omega) g1 i1 i2
        obtain ⟨a1, a2, a3, a4, a5⟩ := luS_at (s := s) (o := o) (n := n) (g := g) (q := q) (fl := fl % 2)
        dsimp only
        have hlk := lk_ok hOK hq
        by_cases hgr : isGr t = true
        · rw [if_pos hgr] at hR ⊢
          have ht1 : 1 ≤ tsz t := by
            unfold isGr at hgr
            split at hgr
            · exact Nat.le_refl _
            · cases hgr
          exact ⟨_, hR, ⟨a1, a2, by omega, by rw [a5 _ _ (by omega), g4]⟩, luS_fr⟩
        · rw [if_neg hgr] at hR ⊢
          exact ⟨_, hR, luS_fr⟩
    · have hz : esz (.arg v) = 1 := rfl
      rw [hz] at hn ⊢
      exact ⟨s, ig_skip hCH hr (by omega) (by rw [g1]; decide), ⟨g1, g2, g3, g4⟩, Fr.rf s⟩
/-- isGroundExpr -/
theorem k_groundExpr {d o P M C L n : Nat} {env : EnvT} {e : Jvm.Term} {s : Mem} (hd : 3 ≤ d) (hM : M ≤ 201) (hC : C ≤ 200) (hP : P ≤ 200) (hL : L ≤ 24) (hOK : eOK env L) (hE : EC s M C env) (hCH : CHS s o) (hf : s 114 10 = C) (h : CE s o P e n) (hn : n + esz e ≤ 225) :
    match rE env e with
    | some e' => ∃ s', Zc d 85 [aR 133, aI ((n + esz e - 1 : Nat) : Int)] s = rI 1 s' ∧ CR s' o e' n ∧ Fr (LUF o n (n + esz e)) s s'
    | none => ∃ s', Zc d 85 [aR 133, aI ((n + esz e - 1 : Nat) : Int)] s = rI 0 s' ∧ Fr (LUF o n (n + esz e)) s s' := by
  obtain ⟨d, rfl⟩ : ∃ e, d = e + 1 := ⟨d - 1, by omega⟩
  have hp := esz_pos e
  have hfi := CE_first h
  have c2 := hCH.2.1
  have ho := hCH.2.2
  generalize hrt : n + esz e - 1 = root at hfi ⊢
  have e0 : Zc (d + 1) 85 [aR 133, aI root] s = Ze d 85 10 [aR 133, aI root, aI n] [] s := by
    simp (disch := first | exact obC_133 | exact (obCO_66 ho) | omega | (simp only [(aN1O_67 ho), (aN1O_71 ho)]; omega) | (simp only [List.length_cons, List.length_nil]; omega)) only [en85, x85_0, x85_1, x85_4, x85_7, x85_8, x85_9, x85_11, x85_12, x85_15, x85_16, x85_19, x85_22, x85_23, x85_24, x85_25, x85_28, x85_29, x85_30, x85_33, x85_36, x85_37, x85_38, x85_41, x85_44, x85_45, x85_46, x85_49, x85_52, x85_53, (fcnO_66_0 ho), (fcnO_66_4 ho), if_true, if_false, eq_self, Int.reduceEq, Int.reduceLT, Int.reduceLE, Int.reduceAdd, Int.reduceSub, Int.reduceMul, Int.reduceToNat, Nat.reduceAdd, Nat.reduceMul, Nat.reduceEqDiff, Int.toNat_natCast, wrap_id, c2, hfi]
  have hI := igr_all (d := d) (o := o) (P := P) (M := M) (C := C) (root := root) (by omega) hM hC hP (by omega) hL hOK e n s h hE hCH hf (by omega)
  cases hx : rE env e with
  | none =>
    rw [hx] at hI
    obtain ⟨s', e1, e2⟩ := hI
    exact ⟨s', e0.trans e1, e2⟩
  | some e' =>
    rw [hx] at hI
    obtain ⟨s', e1, e2, e3⟩ := hI
    refine ⟨s', ?_, e2, e3⟩
    rw [e0, e1, x85_10]
    simp (disch := first | exact obC_133 | exact (obCO_66 ho) | omega | (simp only [(aN1O_67 ho), (aN1O_71 ho)]; omega) | (simp only [List.length_cons, List.length_nil]; omega)) only [en85, x85_0, x85_1, x85_4, x85_7, x85_8, x85_9, x85_11, x85_12, x85_15, x85_16, x85_19, x85_22, x85_23, x85_24, x85_25, x85_28, x85_29, x85_30, x85_33, x85_36, x85_37, x85_38, x85_41, x85_44, x85_45, x85_46, x85_49, x85_52, x85_53, (fcnO_66_0 ho), (fcnO_66_4 ho), if_true, if_false, eq_self, Int.reduceEq, Int.reduceLT, Int.reduceLE, Int.reduceAdd, Int.reduceSub, Int.reduceMul, Int.reduceToNat, Nat.reduceAdd, Nat.reduceMul, Nat.reduceEqDiff, Int.toNat_natCast, wrap_id, if_pos (show (root : Int) < ((n + esz e : Nat) : Int) by omega)]
