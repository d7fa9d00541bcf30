/-! THE COUPLING: reference and class side by side -/
theorem RA_off {s s' : Mem} {T : Tx} {w : Int} {cp : Bool} {lv : Live} {st val bf ch : Nat → Int} {ck cn : Int} (f : ∀ k, k < 56 → ∀ i, s' k i = s k i) (h : RA s T w cp lv st val bf ch ck cn) : RA s' T w cp lv st val bf ch ck cn := by
  obtain ⟨h1, h2, h3, h4, h5, h6, h7, h8, h9, h10, h11, h12, h13, h14⟩ := h
  have F : Fr (fun k _ => 56 ≤ k) s s' := fun k j hk => f k (by omega) j
  have n1 : ¬ (56 ≤ 0) := by decide
  have n2 : ∀ _ : Nat, ¬ (56 ≤ 1) := fun _ => by decide
  exact ⟨(F.tx n1 n2).trans h1, F.okT n1 n2 h2, LV_put (fun k j hk => f k (by omega) j) h3, by rw [f _ (by decide), h4], by rw [f _ (by decide), h5], fun j hj => by rw [f _ (by decide), h6 j hj], fun j hj => by rw [f _ (by decide), h7 j hj], h8, h9, h10, h11, fun j hj => by rw [f _ (by decide), f _ (by decide)]; exact h12 j hj, by rw [f _ (by decide), h13], by rw [f _ (by decide), h14]⟩
theorem RK_off {s s' : Mem} {T : Tx} {w : Int} {cp : Bool} {lv : Live} {st val bf ch : Nat → Int} {ck cn : Int} {o N K : Nat} {l : List Nat} (f : ∀ k, 56 ≤ k → ∀ i, s' k i = s k i) (h : RK s T w cp lv st val bf ch ck cn o N K l) : RK s' T w cp lv st val bf ch ck cn o N K l :=
  RK_fail h (fun k j hn => f k (Classical.byContradiction fun hk => hn ⟨by omega, by omega, fun e => absurd e (by omega)⟩) j) (by rw [f _ (by decide)]; exact h.2.1)
theorem DY_off {s s' : Mem} (f : ∀ k, 56 ≤ k → ∀ i, s' k i = s k i) (h : DY HIG s) : DY HIG s' := fun r k hr hk h0 => by
  rw [f r hr] at h0 ⊢
  exact h r k hr hk h0
def AGR (n : Nat) (f g : Nat → Int) : Prop := ∀ j, j < n → f j = g j
theorem AGR.rf (n : Nat) (f : Nat → Int) : AGR n f f := fun _ _ => rfl
/-- what is known of a circuit that was compiled -/
def LVO (lv : Live) : Prop := (∀ x, x ∈ lv.1 → x.1 ≤ 4) ∧ ∀ x, x ∈ lv.2.1 → ∀ h, occ h x.2.2 → h < lv.1.length
def CPL (s : Mem) : Prop := ∃ (T : Tx) (w : Int) (cp : Bool) (lv : Live) (sa va ba ca sk vk bk ck : Nat → Int) (c cn : Int) (o N K : Nat) (l : List Nat), RA s T w cp lv sa va ba ca c cn ∧ RK s T w cp lv sk vk bk ck c cn o N K l ∧ AGR lv.1.length sa sk ∧ AGR lv.1.length va vk ∧ AGR lv.1.length ba bk ∧ AGR lv.1.length ca ck ∧ LVO lv ∧ DY HIG s
-- what compile comes to is one thing
theorem CMP_fun {T : Tx} {w w' th th' : Int} {live live' : Option Live} (h : CMP T w th live) (h' : CMP T w' th' live') : w = w' ∧ th = th' ∧ live = live' := by
  unfold CMP at h h'
  cases hp : pAll T with
  | error p =>
    rw [hp] at h h'
    dsimp only at h h'
    exact ⟨h.1.trans h'.1.symm, h.2.1.trans h'.2.1.symm, h.2.2.trans h'.2.2.symm⟩
  | ok its =>
    rw [hp] at h h'
    dsimp only at h h'
    cases hc : ckA (fun _ => none) [] [] its with
    | error p =>
      rw [hc] at h h'
      dsimp only at h h'
      exact ⟨h.1.trans h'.1.symm, h.2.1.trans h'.2.1.symm, h.2.2.trans h'.2.2.symm⟩
    | ok y =>
      obtain ⟨sg, lo⟩ := y
      rw [hc] at h h'
      dsimp only at h h'
      have lst : ∀ (P : Nat → Prop) (k k' : Nat), P k → (∀ j, j < k → ¬ P j) → P k' → (∀ j, j < k' → ¬ P j) → k = k' := fun P k k' a b a' b' => by
        rcases Nat.lt_trichotomy k k' with z | z | z
        · exact absurd a (b' k z)
        · exact z
        · exact absurd a' (b k' z)
      rcases h with ⟨a0, a1, a2, a3⟩ | ⟨W, hG, h⟩
      · rcases h' with ⟨b0, b1, b2, b3⟩ | ⟨W', hG', h'⟩
        · exact ⟨a1.trans b1.symm, a2.trans b2.symm, a3.trans b3.symm⟩
        · exact absurd ⟨W', hG'⟩ a0
      · rcases h' with ⟨b0, b1, b2, b3⟩ | ⟨W', hG', h'⟩
        · exact absurd ⟨W, hG⟩ b0
        · have hW := GW_uniq hG hG'
          subst hW
          rcases h with ⟨k, k1, k2, k3, k4, k5, k6⟩ | ⟨hu, h⟩
          · rcases h' with ⟨k', k1', k2', k3', k4', k5', k6'⟩ | ⟨hu', h'⟩
            · have := lst _ k k' k2 k3 k2' k3'
              subst this
              exact ⟨k4.trans k4'.symm, k5.trans k5'.symm, k6.trans k6'.symm⟩
            · exact absurd k2 (hu' k k1)
          · rcases h' with ⟨k', k1', k2', k3', k4', k5', k6'⟩ | ⟨hu', h'⟩
            · exact absurd k2' (hu k' k1')
            · rcases h with ⟨k, k1, k2, k3, k4, k5, k6⟩ | ⟨hy, a1, a2, a3⟩
              · rcases h' with ⟨k', k1', k2', k3', k4', k5', k6'⟩ | ⟨hy', b1, b2, b3⟩
                · have := lst _ k k' k2 k3 k2' k3'
                  subst this
                  exact ⟨k4.trans k4'.symm, k5.trans k5'.symm, k6.trans k6'.symm⟩
                · exact absurd k2 (hy' k k1)
              · rcases h' with ⟨k', k1', k2', k3', k4', k5', k6'⟩ | ⟨hy', b1, b2, b3⟩
                · exact absurd k2' (hy k' k1')
                · exact ⟨a1.trans b1.symm, a2.trans b2.symm, a3.trans b3.symm⟩
/-- a compile that fails says how -/
theorem CMP_th {T : Tx} {w th : Int} (h : CMP T w th none) : th = 1 ∨ th = 2 ∨ th = 3 ∨ th = 4 ∨ th = 5 := by
  unfold CMP at h
  cases hp : pAll T with
  | error p => rw [hp] at h; exact Or.inl h.2.1
  | ok its =>
    rw [hp] at h
    dsimp only at h
    cases hc : ckA (fun _ => none) [] [] its with
    | error p => rw [hc] at h; exact Or.inr (Or.inl h.2.1)
    | ok y =>
      obtain ⟨sg, lo⟩ := y
      rw [hc] at h
      dsimp only at h
      rcases h with ⟨-, -, h, -⟩ | ⟨W, -, ⟨k, -, -, -, -, h, -⟩ | ⟨-, ⟨k, -, -, -, -, h, -⟩ | ⟨-, -, -, h⟩⟩⟩
      · exact Or.inr (Or.inr (Or.inl h))
      · exact Or.inr (Or.inr (Or.inr (Or.inl h)))
      · exact Or.inr (Or.inr (Or.inr (Or.inr h)))
      · exact (nomatch h)
theorem CMP_occ {T : Tx} {w th : Int} {lv : Live} (hT : T.2 ≤ 200) (h : CMP T w th (some lv)) : ∀ x, x ∈ lv.2.1 → ∀ h, occ h x.2.2 → h < lv.1.length := by
  unfold CMP at h
  cases hp : pAll T with
  | error p => rw [hp] at h; exact (nomatch h.2.2)
  | ok its =>
    rw [hp] at h
    dsimp only at h
    cases hc : ckA (fun _ => none) [] [] its with
    | error p => rw [hc] at h; exact (nomatch h.2.2)
    | ok y =>
      obtain ⟨sg, lo⟩ := y
      rw [hc] at h
      dsimp only at h
      rcases h with ⟨-, -, -, h⟩ | ⟨W, -, ⟨k, -, -, -, -, -, h⟩ | ⟨-, ⟨k, -, -, -, -, -, h⟩ | ⟨-, -, -, h⟩⟩⟩
      · exact (nomatch h)
      · exact (nomatch h)
      · exact (nomatch h)
      · injection h with h
        subst h
        have h' : pIts T (T.2 + 1) [] (sk T 0) = .ok its := hp
        obtain ⟨a1, -, -⟩ := pIts_ok (T.2 + 1) [] _ its (sk_le T (Nat.zero_le _)) (fun b hb => (nomatch hb)) h'
        obtain ⟨-, r, hr, -, b3, -, -⟩ := ckA_good its (fun _ => none) [] [] sg lo (fun d t b h => (nomatch (show (none : Option (Jvm.Term × Nat)) = some (t, b) from h))) a1 (fun x hx => (nomatch hx)) hc
        rw [List.nil_append] at hr
        subst hr
        intro x hx h ho
        show h < (sgW sg W).length
        rw [sgW_len]
        exact nel_occ (b3 x hx).2.2 (b3 x hx).1 ho
theorem LVO_of {T : Tx} {w th : Int} {lv : Live} (hT : T.2 ≤ 200) (h : CMP T w th (some lv)) : LVO lv := ⟨CMP_k4 h, CMP_occ hT h⟩
-- clocks
theorem stN_ag {lv : Live} {sa sk va vk : Nat → Int} (hO : LVO lv) (h1 : AGR lv.1.length sa sk) (h2 : AGR lv.1.length va vk) : AGR lv.1.length (stN lv.1 lv.2.1 lv.2.2 sa va) (stN lv.1 lv.2.1 lv.2.2 sk vk) := fun j hj => by
  unfold stN
  cases hx : lv.1[j]? with
  | none => exact h1 j hj
  | some x =>
    dsimp only
    by_cases h3 : x.1 = 3
    · rw [if_pos h3, if_pos h3, h1 j hj, vF_eq (val' := vk) (fun g hg => h2 g (occ_lwF hO.2 (fun h hh => by have e : h = j := hh; omega) (fun f hf => absurd hf List.not_mem_nil) g hg))]
    · rw [if_neg h3, if_neg h3, h1 j hj]
theorem EV_ag {lv : Live} {sa sk va vk : Nat → Int} (hL : lv.1.length ≤ 24) (hD : ∀ g h, dpd lv.1 lv.2.1 g h → h < lv.1.length) (hc : ∀ g, g < lv.1.length → ¬ cyc (dpd lv.1 lv.2.1) (rgs lv.1) g) (h1 : AGR lv.1.length sa sk) (e1 : EV lv.1 lv.2.1 lv.2.2 sa va) (e2 : EV lv.1 lv.2.1 lv.2.2 sk vk) : AGR lv.1.length va vk :=
  EV_uniq hL hD hc (EV_st h1 e1) e2
theorem clk_ag {lv : Live} (hO : LVO lv) (hL : lv.1.length ≤ 24) (hD : ∀ g h, dpd lv.1 lv.2.1 g h → h < lv.1.length) (hc : ∀ g, g < lv.1.length → ¬ cyc (dpd lv.1 lv.2.1) (rgs lv.1) g) : ∀ (n : Nat) (sa va ba ca sk vk bk ck : Nat → Int) (c : Int) (sa' va' ba' ca' sk' vk' bk' ck' : Nat → Int) (c' d' : Int),
    AGR lv.1.length sa sk → AGR lv.1.length va vk → AGR lv.1.length ba bk → AGR lv.1.length ca ck → clkR lv n sa va ba ca c sa' va' ba' ca' c' → clkR lv n sk vk bk ck c sk' vk' bk' ck' d' →
    AGR lv.1.length sa' sk' ∧ AGR lv.1.length va' vk' ∧ AGR lv.1.length ba' bk' ∧ AGR lv.1.length ca' ck' ∧ c' = d' := by
  intro n
  induction n with
  | zero =>
    intro sa va ba ca sk vk bk ck c sa' va' ba' ca' sk' vk' bk' ck' c' d' a1 a2 a3 a4 h h'
    obtain ⟨rfl, rfl, rfl, rfl, rfl⟩ := h
    obtain ⟨rfl, rfl, rfl, rfl, rfl⟩ := h'
    exact ⟨a1, a2, a3, a4, rfl⟩
  | succ n ih =>
    intro sa va ba ca sk vk bk ck c sa' va' ba' ca' sk' vk' bk' ck' c' d' a1 a2 a3 a4 h h'
    obtain ⟨v1, e1, r1⟩ := h
    obtain ⟨v2, e2, r2⟩ := h'
    have b1 := stN_ag hO a1 a2
    exact ih _ _ _ _ _ _ _ _ _ _ _ _ _ _ _ _ _ _ _ b1 (EV_ag hL hD hc b1 e1 e2) a2 (fun j hj => by
      show (if va j = ba j then ca j else wrap (ca j + 1)) = (if vk j = bk j then ck j else wrap (ck j + 1))
      rw [a2 j hj, a3 j hj, a4 j hj]) r1 r2
-- the calls
theorem okX {as : List AV} (h : okL HIG as) : okL HIG (aR 56 :: as) := okL_c (okP_R (show 56 ≤ 56 by decide)) h
theorem okM {as : List AV} (h : okL LOW as) : okL LOW (aR 0 :: as) := okL_c (okP_R (show 0 < 56 by decide)) h
theorem ok0 {P : Nat → Prop} : okL P [] := okL_n
theorem ok1 {P : Nat → Prop} {k : Int} : okL P [aI k] := okL_c (okP_0 _) okL_n
theorem ok1L {P : Nat → Prop} {k : Int} : okL P [aL k] := okL_c (okP_2 _) okL_n
theorem ok2 {P : Nat → Prop} {k v : Int} : okL P [aI k, aI v] := okL_c (okP_0 _) (okL_c (okP_0 _) okL_n)
/-- the class answers, and the reference behind it answers the same: a number, or that it throws (which, and by what number the reference says so) -/
def OUTz (s : Mem) (y ym : Nat) (as : List AV) (codes : List (Nat × Int)) : Prop :=
  (∃ (v : Int) (s1 s2 : Mem), Zc 20 y (aR 56 :: as) s = rI v s1 ∧ Zc 20 ym (aR 0 :: as) s1 = rI v s2 ∧ s2 0 4 = 0 ∧ CPL s2) ∨
  ∃ q ∈ codes, ∃ (b : Int) (s1 s2 : Mem), Zc 20 y (aR 56 :: as) s = rT q.1 s1 ∧ Zc 20 ym (aR 0 :: as) s1 = rI b s2 ∧ s2 0 4 = q.2 ∧ CPL s2
theorem cp_clear {s : Mem} (h : CPL s) : OUTz s 65 4 [] [] := by
  obtain ⟨T, w, cp, lv, sa, va, ba, ca, sk, vk, bk, ck, c, cn, o, N, K, l, hA, hK, a1, a2, a3, a4, a5, a6⟩ := h
  obtain ⟨s1, p1, p2⟩ := k_clearK (d := 20) (by decide) hK
  obtain ⟨f1, f2⟩ := hig_fr p1 (okX ok0) a6
  obtain ⟨s2, q1, q2, q3⟩ := t_clear (d := 20) (by decide) (RA_off f1 hA)
  have g := low_fr q1 (okM ok0)
  exact Or.inl ⟨_, s1, s2, p1, q1, q3, _, w, cp, lv, sa, va, ba, ca, sk, vk, bk, ck, c, cn, o, N, K, l, q2, RK_off g p2, a1, a2, a3, a4, a5, DY_off g f2⟩
theorem cp_where {s : Mem} (h : CPL s) : OUTz s 67 47 [] [] := by
  obtain ⟨T, w, cp, lv, sa, va, ba, ca, sk, vk, bk, ck, c, cn, o, N, K, l, hA, hK, a1, a2, a3, a4, a5, a6⟩ := h
  have p1 := k_whereK (d := 20) (by decide) hK
  obtain ⟨s2, q1, q2, q3⟩ := t_where (d := 20) (by decide) hA
  have g := low_fr q1 (okM ok0)
  exact Or.inl ⟨_, s, s2, p1, q1, q3, T, w, cp, lv, sa, va, ba, ca, sk, vk, bk, ck, c, cn, o, N, K, l, q2, RK_off g hK, a1, a2, a3, a4, a5, DY_off g a6⟩
theorem cp_text {s : Mem} {x : Int} (h : CPL s) : OUTz s 64 3 [aL x] [(1, 1), (3, 2)] := by
  obtain ⟨T, w, cp, lv, sa, va, ba, ca, sk, vk, bk, ck, c, cn, o, N, K, l, hA, hK, a1, a2, a3, a4, a5, a6⟩ := h
  obtain ⟨p1, p2, p3⟩ := k_textK (d := 20) (x := x) (by decide) hK
  cases hb : (btl x 8).all okc with
  | false =>
    obtain ⟨s2, q1, q2, q3⟩ := (t_textK (d := 20) (x := x) (by decide) hA).1 hb
    have g := low_fr q1 (okM ok1L)
    exact Or.inr ⟨(1, 1), List.mem_cons_self, 0, s, s2, p1 hb, q1, q3, T, w, cp, lv, sa, va, ba, ca, sk, vk, bk, ck, c, cn, o, N, K, l, q2, RK_off g hK, a1, a2, a3, a4, a5, DY_off g a6⟩
  | true =>
    rcases Nat.lt_or_ge 200 (T.2 + (btl x 8).length) with hl | hl
    · obtain ⟨s2, q1, q2, q3⟩ := (t_textK (d := 20) (x := x) (by decide) hA).2.1 hb hl
      have g := low_fr q1 (okM ok1L)
      exact Or.inr ⟨(3, 2), List.mem_cons_of_mem _ List.mem_cons_self, 0, s, s2, p2 hb hl, q1, q3, T, w, cp, lv, sa, va, ba, ca, sk, vk, bk, ck, c, cn, o, N, K, l, q2, RK_off g hK, a1, a2, a3, a4, a5, DY_off g a6⟩
    · obtain ⟨s1, r1, r2⟩ := p3 hb hl
      obtain ⟨f1, f2⟩ := hig_fr r1 (okX ok1L) a6
      obtain ⟨s2, T', q1, q0, q2, q3⟩ := (t_textK (d := 20) (x := x) (by decide) (RA_off f1 hA)).2.2 hb hl
      have g := low_fr q1 (okM ok1L)
      rw [q0.1] at q1
      exact Or.inl ⟨_, s1, s2, r1, q1, q3, T', w, cp, lv, sa, va, ba, ca, sk, vk, bk, ck, c, cn, o, N, K, l, q2, RK_off g (r2 T' q0), a1, a2, a3, a4, a5, DY_off g f2⟩
theorem cp_compile {s : Mem} (h : CPL s) : OUTz s 66 46 [] [(1, 1), (2, 2), (3, 3), (4, 4), (5, 5)] := by
  obtain ⟨T, w, cp, lv, sa, va, ba, ca, sk, vk, bk, ck, c, cn, o, N, K, l, hA, hK, a1, a2, a3, a4, a5, a6⟩ := h
  have hT : T.2 ≤ 200 := hK.1.2.1
  rcases k_compileK (d := 20) (by decide) hK with ⟨s1, w', n, m1, m2, m3⟩ | ⟨s1, lv', vk', N', K', l', m1, m2, m3, m4⟩
  · obtain ⟨f1, f2⟩ := hig_fr m2 (okX ok0) a6
    obtain ⟨s2, w2, th, live, c1, c2, c3⟩ := t_compileRA (d := 20) (by decide) (t_oks hT) (RA_off f1 hA)
    obtain ⟨e1, e2, e3⟩ := CMP_fun m1 c1
    subst e1 e2 e3
    dsimp only at c3
    have g := low_fr c3.1 (okM ok0)
    have hn := CMP_th m1
    refine Or.inr ⟨(n, (n : Int)), ?_, 0, s1, s2, m2, c3.1, c2, T, _, cp, lv, sa, va, ba, ca, sk, vk, bk, ck, c, cn, o, N, K, l, c3.2, RK_off g m3, a1, a2, a3, a4, a5, DY_off g f2⟩
    rcases (by omega : n = 1 ∨ n = 2 ∨ n = 3 ∨ n = 4 ∨ n = 5) with rfl | rfl | rfl | rfl | rfl <;> simp
  · obtain ⟨f1, f2⟩ := hig_fr m2 (okX ok0) a6
    obtain ⟨s2, w2, th, live, c1, c2, c3⟩ := t_compileRA (d := 20) (by decide) (t_oks hT) (RA_off f1 hA)
    obtain ⟨e1, e2, e3⟩ := CMP_fun m1 c1
    subst e1 e2 e3
    dsimp only at c3
    obtain ⟨st', val', c4, c5, c6⟩ := c3
    have g := low_fr c4 (okM ok0)
    have b1 : AGR lv'.1.length st' (fun _ => 0) := c5
    refine Or.inl ⟨_, s1, s2, m2, c4, c2, T, _, true, lv', st', val', _, _, _, vk', _, _, _, _, 26 - o, N', K', l', c6, RK_off g m3, b1, ?_, AGR.rf _ _, AGR.rf _ _, LVO_of hT c1, DY_off g f2⟩
    exact EV_ag c6.2.2.1.2.1 c6.2.2.1.2.2.2.2.2.2.2.1 m4 b1 c6.2.2.2.2.2.2.2.1 m3.2.2.2.1.2.2.2.2.2.2.2.1
theorem cp_signal {s : Mem} {k what : Int} (h : CPL s) : OUTz s 68 52 [aI k, aI what] [(1, 1), (6, 2)] := by
  obtain ⟨T, w, cp, lv, sa, va, ba, ca, sk, vk, bk, ck, c, cn, o, N, K, l, hA, hK, a1, a2, a3, a4, a5, a6⟩ := h
  obtain ⟨p1, p2, p3⟩ := k_signalK (d := 20) (k := k) (what := what) (by decide) hK
  obtain ⟨t1, t2, t3⟩ := t_signal (d := 20) (k := k) (what := what) (by decide) hA
  by_cases hw : 0 ≤ what ∧ what ≤ 3
  · by_cases hk : 0 ≤ k ∧ k < lv.1.length
    · obtain ⟨s2, q1, q2, q3⟩ := t1 hw hk
      have g := low_fr q1 (okM ok2)
      exact Or.inl ⟨_, s, s2, p1 hw hk, q1, q3, T, w, cp, lv, sa, va, ba, ca, sk, vk, bk, ck, c, cn, o, N, K, l, q2, RK_off g hK, a1, a2, a3, a4, a5, DY_off g a6⟩
    · obtain ⟨s2, q1, q2, q3⟩ := t2 hw hk
      have g := low_fr q1 (okM ok2)
      exact Or.inr ⟨(6, 2), List.mem_cons_of_mem _ List.mem_cons_self, 0, s, s2, p2 hw hk, q1, q3, T, w, cp, lv, sa, va, ba, ca, sk, vk, bk, ck, c, cn, o, N, K, l, q2, RK_off g hK, a1, a2, a3, a4, a5, DY_off g a6⟩
  · obtain ⟨s2, q1, q2, q3⟩ := t3 hw
    have g := low_fr q1 (okM ok2)
    exact Or.inr ⟨(1, 1), List.mem_cons_self, 0, s, s2, p3 hw, q1, q3, T, w, cp, lv, sa, va, ba, ca, sk, vk, bk, ck, c, cn, o, N, K, l, q2, RK_off g hK, a1, a2, a3, a4, a5, DY_off g a6⟩
theorem cp_depends {s : Mem} {k : Int} (h : CPL s) : OUTz s 69 53 [aI k] [(6, 1)] := by
  obtain ⟨T, w, cp, lv, sa, va, ba, ca, sk, vk, bk, ck, c, cn, o, N, K, l, hA, hK, a1, a2, a3, a4, a5, a6⟩ := h
  obtain ⟨p1, p2⟩ := k_dependsK (d := 20) (k := k) (by decide) hK
  obtain ⟨t1, t2⟩ := t_dependsK (d := 20) (k := k) (by decide) hA
  by_cases hk : 0 ≤ k ∧ k < lv.1.length
  · obtain ⟨v, p3, p4⟩ := p1 hk
    obtain ⟨s2, v', q1, q4, q2, q3⟩ := t1 hk
    have g := low_fr q1 (okM ok1)
    rw [BT_uniq q4 p4] at q1
    exact Or.inl ⟨_, s, s2, p3, q1, q3, T, w, cp, lv, sa, va, ba, ca, sk, vk, bk, ck, c, cn, o, N, K, l, q2, RK_off g hK, a1, a2, a3, a4, a5, DY_off g a6⟩
  · obtain ⟨s2, q1, q2, q3⟩ := t2 hk
    have g := low_fr q1 (okM ok1)
    exact Or.inr ⟨(6, 1), List.mem_cons_self, 0, s, s2, p2 hk, q1, q3, T, w, cp, lv, sa, va, ba, ca, sk, vk, bk, ck, c, cn, o, N, K, l, q2, RK_off g hK, a1, a2, a3, a4, a5, DY_off g a6⟩
theorem cp_value {s : Mem} {k : Int} (h : CPL s) : OUTz s 71 55 [aI k] [(6, 1)] := by
  obtain ⟨T, w, cp, lv, sa, va, ba, ca, sk, vk, bk, ck, c, cn, o, N, K, l, hA, hK, a1, a2, a3, a4, a5, a6⟩ := h
  obtain ⟨p1, p2⟩ := k_valueK (d := 20) (k := k) (by decide) hK
  obtain ⟨t1, t2⟩ := t_value (d := 20) (k := k) (by decide) hA
  by_cases hk : 0 ≤ k ∧ k < lv.1.length
  · obtain ⟨s2, q1, q2, q3⟩ := t1 hk
    have g := low_fr q1 (okM ok1)
    rw [a2 _ (by omega)] at q1
    exact Or.inl ⟨_, s, s2, p1 hk, q1, q3, T, w, cp, lv, sa, va, ba, ca, sk, vk, bk, ck, c, cn, o, N, K, l, q2, RK_off g hK, a1, a2, a3, a4, a5, DY_off g a6⟩
  · obtain ⟨s2, q1, q2, q3⟩ := t2 hk
    have g := low_fr q1 (okM ok1)
    exact Or.inr ⟨(6, 1), List.mem_cons_self, 0, s, s2, p2 hk, q1, q3, T, w, cp, lv, sa, va, ba, ca, sk, vk, bk, ck, c, cn, o, N, K, l, q2, RK_off g hK, a1, a2, a3, a4, a5, DY_off g a6⟩
theorem cp_count {s : Mem} {k : Int} (h : CPL s) : OUTz s 74 59 [aI k] [(1, 1)] := by
  obtain ⟨T, w, cp, lv, sa, va, ba, ca, sk, vk, bk, ck, c, cn, o, N, K, l, hA, hK, a1, a2, a3, a4, a5, a6⟩ := h
  obtain ⟨p1, p2⟩ := k_countK (d := 20) (what := k) (by decide) hK
  obtain ⟨t1, t2⟩ := t_count (d := 20) (what := k) (by decide) hA
  by_cases hk : 0 ≤ k ∧ k ≤ 5
  · obtain ⟨s2, q1, q2, q3⟩ := t1 hk
    have g := low_fr q1 (okM ok1)
    exact Or.inl ⟨_, s, s2, p1 hk, q1, q3, T, w, cp, lv, sa, va, ba, ca, sk, vk, bk, ck, c, cn, o, N, K, l, q2, RK_off g hK, a1, a2, a3, a4, a5, DY_off g a6⟩
  · obtain ⟨s2, q1, q2, q3⟩ := t2 hk
    have g := low_fr q1 (okM ok1)
    exact Or.inr ⟨(1, 1), List.mem_cons_self, 0, s, s2, p2 hk, q1, q3, T, w, cp, lv, sa, va, ba, ca, sk, vk, bk, ck, c, cn, o, N, K, l, q2, RK_off g hK, a1, a2, a3, a4, a5, DY_off g a6⟩
theorem cp_set {s : Mem} {k v : Int} (h : CPL s) : OUTz s 70 54 [aI k, aI v] [(6, 1), (2, 2)] := by
  obtain ⟨T, w, cp, lv, sa, va, ba, ca, sk, vk, bk, ck, c, cn, o, N, K, l, hA, hK, a1, a2, a3, a4, a5, a6⟩ := h
  obtain ⟨p1, p2, p3⟩ := k_setK (d := 20) (k := k) (v := v) (by decide) hK
  by_cases hk : 0 ≤ k ∧ k < lv.1.length
  · by_cases hf : isFree lv k.toNat
    · obtain ⟨s1, vk', r1, r2⟩ := p1 hk ((fre_iff a5.1).mpr hf)
      obtain ⟨f1, f2⟩ := hig_fr r1 (okX ok2) a6
      obtain ⟨s2, va', q1, q2, q3⟩ := (t_setK (d := 20) (k := k) (v := v) (by decide) (RA_off f1 hA)).1 hk hf
      have g := low_fr q1 (okM ok2)
      have b1 : AGR lv.1.length (vUp sa k.toNat (iand v (msk (lv.2.2 k.toNat)))) (vUp sk k.toNat (iand v (msk (lv.2.2 k.toNat)))) := fun j hj => by
        unfold vUp
        by_cases z : j = k.toNat
        · rw [if_pos z, if_pos z]
        · rw [if_neg z, if_neg z, a1 j hj]
      rw [a1 _ (by omega)] at q1
      refine Or.inl ⟨_, s1, s2, r1, q1, q3, T, w, cp, lv, _, va', ba, ca, _, vk', bk, ck, c, cn, o, N, K, l, q2, RK_off g r2, b1, ?_, a3, a4, a5, DY_off g f2⟩
      exact EV_ag hA.2.2.1.2.1 hA.2.2.1.2.2.2.2.2.2.2.1 hA.2.2.2.2.2.2.2.2.1 b1 q2.2.2.2.2.2.2.2.1 r2.2.2.2.1.2.2.2.2.2.2.2.1
    · obtain ⟨s2, q1, q2, q3⟩ := (t_setK (d := 20) (k := k) (v := v) (by decide) hA).2.1 hk hf
      have g := low_fr q1 (okM ok2)
      exact Or.inr ⟨(2, 2), List.mem_cons_of_mem _ List.mem_cons_self, 0, s, s2, p2 hk (fun z => hf ((fre_iff a5.1).mp z)), q1, q3, T, w, cp, lv, sa, va, ba, ca, sk, vk, bk, ck, c, cn, o, N, K, l, q2, RK_off g hK, a1, a2, a3, a4, a5, DY_off g a6⟩
  · obtain ⟨s2, q1, q2, q3⟩ := (t_setK (d := 20) (k := k) (v := v) (by decide) hA).2.2 hk
    have g := low_fr q1 (okM ok2)
    exact Or.inr ⟨(6, 1), List.mem_cons_self, 0, s, s2, p3 hk, q1, q3, T, w, cp, lv, sa, va, ba, ca, sk, vk, bk, ck, c, cn, o, N, K, l, q2, RK_off g hK, a1, a2, a3, a4, a5, DY_off g a6⟩
theorem cp_clock {s : Mem} {k : Int} (h : CPL s) : OUTz s 72 57 [aI k] [(1, 1), (3, 2)] := by
  obtain ⟨T, w, cp, lv, sa, va, ba, ca, sk, vk, bk, ck, c, cn, o, N, K, l, hA, hK, a1, a2, a3, a4, a5, a6⟩ := h
  obtain ⟨p1, p2, p3⟩ := k_clockK (d := 20) (n := k) (by decide) hK
  by_cases hk : 1 ≤ k ∧ k ≤ 40
  · cases hc : cp with
    | true =>
      subst hc
      obtain ⟨s1, sk', vk', bk', ck', c1, r1, r2, r3⟩ := p1 hk rfl
      obtain ⟨f1, f2⟩ := hig_fr r1 (okX ok1) a6
      obtain ⟨s2, sa', va', ba', ca', c2, q1, q2, q3, q4⟩ := (t_clock (d := 20) (n := k) (by decide) (RA_off f1 hA)).1 hk rfl
      have g := low_fr q1 (okM ok1)
      obtain ⟨b1, b2, b3, b4, b5⟩ := clk_ag a5 hA.2.2.1.2.1 hA.2.2.1.2.2.2.2.2.2.2.1 hA.2.2.2.2.2.2.2.2.1 _ _ _ _ _ _ _ _ _ _ _ _ _ _ _ _ _ _ _ _ a1 a2 a3 a4 q2 r2
      subst b5
      exact Or.inl ⟨_, s1, s2, r1, q1, q4, T, w, true, lv, sa', va', ba', ca', sk', vk', bk', ck', _, cn, o, N, K, l, q3, RK_off g r3, b1, b2, b3, b4, a5, DY_off g f2⟩
    | false =>
      subst hc
      obtain ⟨s2, q1, q2, q3⟩ := (t_clock (d := 20) (n := k) (by decide) hA).2.1 hk rfl
      have g := low_fr q1 (okM ok1)
      exact Or.inr ⟨(3, 2), List.mem_cons_of_mem _ List.mem_cons_self, 0, s, s2, p2 hk rfl, q1, q3, T, w, false, lv, sa, va, ba, ca, sk, vk, bk, ck, c, cn, o, N, K, l, q2, RK_off g hK, a1, a2, a3, a4, a5, DY_off g a6⟩
  · obtain ⟨s2, q1, q2, q3⟩ := (t_clock (d := 20) (n := k) (by decide) hA).2.2 hk
    have g := low_fr q1 (okM ok1)
    exact Or.inr ⟨(1, 1), List.mem_cons_self, 0, s, s2, p3 hk, q1, q3, T, w, cp, lv, sa, va, ba, ca, sk, vk, bk, ck, c, cn, o, N, K, l, q2, RK_off g hK, a1, a2, a3, a4, a5, DY_off g a6⟩
