/-! THE CLASS: all steps of the lowering -/
theorem bOf_cons {st : List Fm} {b : Bool} {d : List Bool} (h : bOf st = b :: d) : ∃ f r, st = f :: r ∧ f.2.1.isSome = b ∧ bOf r = d := by
  cases st with
  | nil => cases h
  | cons f r =>
    injection h with h1 h2
    exact ⟨f, r, rfl, h1, h2⟩
theorem bOf_len {st : List Fm} : (bOf st).length = st.length := List.length_map ..
def fmN : Fm := (.null, none, .null, false)
theorem low_loop {d o N T : Nat} {sg : List Sg} {xs : List (Nat × Nat × List Lo)} (hd : 4 ≤ d) (ho : o = 0 ∨ o = 26) (hN : N ≤ 225) (hL : sg.length ≤ 24) (hxs : xs.length ≤ 200) (hT : T ≤ 200) : ∀ (m k K e z c q : Nat) (s : Mem) (now : Nat → Jvm.Term) (stk : Nat → List Fm) (gf db : List Bool), k + m = xs.length → s 124 4 = xs.length → (∀ j x, xs[j]? = some x → XS s o N sg j x) → LGS s o N sg.length K e now stk gf → (∀ g, g < 24 → bOf (stk g) = db) → wfN db ((xs.drop k).flatMap (fun x => x.2.2)) → K ≤ 24 * q → q + gf.count true ≤ 3 * c → q ≤ z → 4 * z + 3 * e + 5 * c + wgX (xs.drop k) ≤ T → FO s o N sg.length K sg xs k →
    ∃ (s' : Mem) (K' : Nat), Ze d 102 15 [aR 137, aR (58 + o), aI k] [] s = Ze d 102 15 [aR 137, aR (58 + o), aI xs.length] [] s' ∧ s' (58 + o) 6 = K' ∧ K' ≤ 840 ∧ NS s' o N ∧ (∀ g, g < 24 → CN1 s' o N sg.length K' (lwF g ((xs.drop k).flatMap (fun x => x.2.2)) (now g) (stk g)) (s' 139 g)) ∧ FO s' o N sg.length K' sg xs xs.length ∧ Fr (LWX o) s s' := by
  intro m
  induction m with
  | zero =>
    intro k K e z c q s now stk gf db hk hu hX h hb hw h1 h2 h3 h4 hF
    have : k = xs.length := by omega
    subst this
    refine ⟨s, K, rfl, h.2.2.2.1, h.2.2.2.2.1, h.2.2.2.2.2.2.2.1, fun g hg => ?_, hF, Fr.rf s⟩
    rw [List.drop_of_length_le (Nat.le_refl _)]
    exact (h.2.2.2.2.2.2.2.2 g hg).2.1.1
  | succ m ih =>
    intro k K e z c q s now stk gf db hk hu hX h hb hw h1 h2 h3 h4 hF
    have hkl : k < xs.length := by omega
    have hx : xs[k]? = some xs[k] := List.getElem?_eq_getElem hkl
    have hdr : xs.drop k = xs[k] :: xs.drop (k + 1) := List.drop_eq_getElem_cons hkl
    rw [hdr] at hw h4 ⊢
    rw [List.flatMap_cons] at hw ⊢
    have hXk := hX k _ hx
    generalize xs[k] = x at hx hdr hw h4 hXk ⊢
    simp only [wgX] at h4
    have go : ∀ (s1 : Mem) (K1 e1 z1 c1 q1 : Nat) (now1 : Nat → Jvm.Term) (stk1 : Nat → List Fm) (gf1 db1 : List Bool), Ze d 102 15 [aR 137, aR (58 + o), aI k] [] s = Ze d 102 15 [aR 137, aR (58 + o), aI ((k + 1 : Nat) : Int)] [] s1 → Fr (LWX o) s s1 → LGS s1 o N sg.length K1 e1 now1 stk1 gf1 → (∀ g, g < 24 → bOf (stk1 g) = db1) → wfN db1 ((xs.drop (k + 1)).flatMap (fun x => x.2.2)) → K1 ≤ 24 * q1 → q1 + gf1.count true ≤ 3 * c1 → q1 ≤ z1 → 4 * z1 + 3 * e1 + 5 * c1 + wgX (xs.drop (k + 1)) ≤ T → FO s1 o N sg.length K1 sg xs (k + 1) → (∀ g, g < 24 → lwF g (x.2.2 ++ (xs.drop (k + 1)).flatMap (fun x => x.2.2)) (now g) (stk g) = lwF g ((xs.drop (k + 1)).flatMap (fun x => x.2.2)) (now1 g) (stk1 g)) →
        ∃ (s' : Mem) (K' : Nat), Ze d 102 15 [aR 137, aR (58 + o), aI k] [] s = Ze d 102 15 [aR 137, aR (58 + o), aI xs.length] [] s' ∧ s' (58 + o) 6 = K' ∧ K' ≤ 840 ∧ NS s' o N ∧ (∀ g, g < 24 → CN1 s' o N sg.length K' (lwF g (x.2.2 ++ (xs.drop (k + 1)).flatMap (fun x => x.2.2)) (now g) (stk g)) (s' 139 g)) ∧ FO s' o N sg.length K' sg xs xs.length ∧ Fr (LWX o) s s' := by
      intro s1 K1 e1 z1 c1 q1 now1 stk1 gf1 db1 r1 r2 r3 r4 r5 r6 r7 r8 r9 r10 r11
      obtain ⟨s', K', a1, a2, a3, a4, a5, a6, a7⟩ := ih (k + 1) K1 e1 z1 c1 q1 s1 now1 stk1 gf1 db1 (by omega) (by rw [r2 _ _ (by unfold LWX LWF; omega), hu]) (fun j x hj => LWX_XS ho r2 (hX j x hj)) r3 r4 r5 r6 r7 r8 r9 r10
      exact ⟨s', K', by rw [r1, a1], a2, a3, a4, fun g hg => by rw [r11 g hg]; exact a5 g hg, a6, r2.tr a7⟩
    have wid : ∀ {s1 : Mem}, Fr (LWF o) s s1 → Fr (LWX o) s s1 := fun f => f.mono (fun _ _ z => Or.inl z)
    have ffo : ∀ {s1 : Mem} {K1 : Nat}, Fr (LWF o) s s1 → K ≤ K1 → (∀ c j, 74 ≤ c → c ≤ 76 → j < K → s1 (c + o) j = s (c + o) j) → (∀ j, j < 225 + K → s1 138 j = s 138 j) → ¬ x.1 = 5 → FO s1 o N sg.length K1 sg xs (k + 1) := fun f hK f1 f2 h5 => FO_next (FO_put hN hL hK hF (LW_AN ho f) f1 f2 (fun j => f _ _ (by unfold LWF; omega))) hx h5
    have he3 : e ≤ 3 := h.2.1
    have hbl : db.length = e := by
      have := hb 0 (by decide)
      rw [← this, bOf_len, (h.2.2.2.2.2.2.2.2 0 (by decide)).1]
    rcases hXk with ⟨i1, i2, i3⟩ | ⟨i1, i2, e', mm, i3, i4, i5, i6, i7⟩ | ⟨i1, i2, i3⟩ | ⟨i1, i2, i3⟩ | ⟨i1, ⟨kd, i2, i2'⟩, i3⟩ | ⟨i1, i2, i3, i4, e', mm, nm, i5, i6, i7, i8, i9⟩
    · obtain ⟨s1, now1, stk1, gf1, a1, a2, a3, a4, a5, a6, a7⟩ := L_conn (d := d) (by omega) ho (show k < 200 by omega) hN hL i3 h
      have hz : ∀ y, y ∈ x.2.2 → y.1 = 0 := fun y hy => by
        obtain ⟨j, hj⟩ := List.getElem?_of_mem hy
        exact (PRS_lt i3 hj).1
      have hcnt : gf1.count true ≤ 3 := by
        have := List.count_le_length (a := true) (l := gf1)
        have := a2.2.2.1
        omega
      rw [i1] at h4
      simp only [wgS, if_pos] at h4
      exact go s1 K e z (c + 1) q now1 stk1 gf1 db (lw_conn ho hu hkl hxs i2 a1) (wid a5) a2 (fun g hg => by rw [a4 g hg, hb g hg]) (wfN_zeros _ _ _ hz hw) h1 (by omega) h3 (by omega) (ffo a5 (Nat.le_refl _) a6 a7 (by omega)) (fun g hg => a3 _ g hg)
    · rw [i3, List.singleton_append, wfN, if_neg (show ¬ (1 : Nat) = 0 by decide), if_pos (show (1 : Nat) = 1 from rfl)] at hw
      obtain ⟨s1, a1, a2, a3, a4, a5⟩ := L_open (d := d) (by omega) ho hN hL h (by omega) i4 ⟨i6, i7⟩
      rw [i1] at h4
      simp only [wgS, if_pos, if_neg (show ¬ (1 : Nat) = 0 by decide)] at h4
      exact go s1 K (e + 1) z c q _ _ _ (false :: db) (lw_ask ho hu hkl hxs i2 i5 a1) (wid a3) a2 (fun g hg => by show _ :: bOf (stk g) = _; rw [hb g hg]; rfl) hw.2 h1 (by rw [List.count_cons_of_ne (by decide)]; exact h2) h3 (by omega) (ffo a3 (Nat.le_refl _) a4 a5 (by omega)) (fun g hg => by rw [i3]; rfl)
    · rw [i3, List.singleton_append, wfN, if_neg (show ¬ (2 : Nat) = 0 by decide), if_neg (show ¬ (2 : Nat) = 1 by decide), if_pos (show (2 : Nat) = 2 from rfl)] at hw
      obtain ⟨d', hd', hw⟩ := hw
      subst hd'
      obtain ⟨i, rfl⟩ : ∃ i, e = i + 1 := ⟨e - 1, by rw [List.length_cons] at hbl; omega⟩
      have hst : ∀ g, g < 24 → stk g = (stk g).headD fmN :: (stk g).tail := fun g hg => by
        obtain ⟨f, r, h1, -, -⟩ := bOf_cons (hb g hg)
        rw [h1]
        rfl
      obtain ⟨s1, a1, a2, a3, a4, a5⟩ := L_turn (d := d) (by omega) ho hN hL (fun g => (stk g).headD fmN) (fun g => (stk g).tail) hst h
      rw [i1] at h4
      simp only [wgS, if_neg (show ¬ (2 : Nat) = 0 by decide), if_neg (show ¬ (2 : Nat) = 1 by decide), if_neg (show ¬ (2 : Nat) = 3 by decide)] at h4
      refine go s1 K (i + 1) z c q _ _ _ (true :: d') (lw_turn ho hu hkl hxs i2 a1) (wid a3) a2 (fun g hg => ?_) hw h1 h2 h3 (by omega) (ffo a3 (Nat.le_refl _) a4 a5 (by omega)) (fun g hg => ?_)
      · obtain ⟨f, r, h1, -, h2⟩ := bOf_cons (hb g hg)
        rw [h1]
        show true :: bOf r = _
        rw [h2]
      · rw [i3]
        conv => lhs; rw [hst g hg]
        rfl
    · rw [i3, List.singleton_append, wfN, if_neg (show ¬ (3 : Nat) = 0 by decide), if_neg (show ¬ (3 : Nat) = 1 by decide), if_neg (show ¬ (3 : Nat) = 2 by decide)] at hw
      obtain ⟨-, d', hd', hw⟩ := hw
      subst hd'
      obtain ⟨i, rfl⟩ : ∃ i, e = i + 1 := ⟨e - 1, by rw [List.length_cons] at hbl; omega⟩
      have hst : ∀ g, g < 24 → stk g = (stk g).headD fmN :: (stk g).tail := fun g hg => by
        obtain ⟨f, r, h1, -, -⟩ := bOf_cons (hb g hg)
        rw [h1]
        rfl
      have htt : ∀ g, g < 24 → ((stk g).headD fmN).2.1 = some (((stk g).headD fmN).2.1.getD .null) := fun g hg => by
        obtain ⟨f, r, h1, h2, -⟩ := bOf_cons (hb g hg)
        rw [h1]
        obtain ⟨v, hv⟩ := Option.isSome_iff_exists.mp h2
        show f.2.1 = some (f.2.1.getD .null)
        rw [hv]
        rfl
      have hgl := h.2.2.1
      obtain ⟨b, gf1, rfl⟩ : ∃ b l, gf = b :: l := by
        cases gf with
        | nil => simp at hgl
        | cons b l => exact ⟨b, l, rfl⟩
      rw [i1] at h4
      simp only [wgS, if_pos, if_neg (show ¬ (3 : Nat) = 0 by decide), if_neg (show ¬ (3 : Nat) = 1 by decide)] at h4
      have hcap : b = true → K + 24 ≤ 840 := fun hb => by
        rw [hb, List.count_cons_self] at h2
        omega
      obtain ⟨s1, K1, a1, a2, a3, a4, a5, a6, a7, a8⟩ := L_close (d := d) (by omega) ho hN hL (fun g => (stk g).headD fmN) (fun g => ((stk g).headD fmN).2.1.getD .null) (fun g => (stk g).tail) hst htt hcap h
      have hbf : ∀ g, g < 24 → bOf (stk g).tail = d' := fun g hg => by
        obtain ⟨f, r, h1, -, h2⟩ := bOf_cons (hb g hg)
        rw [h1]
        exact h2
      have hlw : ∀ g, g < 24 → lwF g (x.2.2 ++ (xs.drop (k + 1)).flatMap (fun x => x.2.2)) (now g) (stk g) = lwF g ((xs.drop (k + 1)).flatMap (fun x => x.2.2)) (fmC (now g) ((stk g).headD fmN)) (stk g).tail := fun g hg => by
        rw [i3]
        conv => lhs; rw [hst g hg]
        rfl
      cases b with
      | true =>
        rw [List.count_cons_self] at h2
        exact go s1 K1 i (z + 1) c (q + 1) _ _ gf1 d' (lw_close ho hu hkl hxs i2 a1) (wid a6) a2 hbf hw (by omega) (by omega) (by omega) (by omega) (ffo a6 a3 a7 a8 (by omega)) hlw
      | false =>
        rw [List.count_cons_of_ne (by decide)] at h2
        have := a5 rfl
        subst this
        exact go s1 K1 i (z + 1) c q _ _ gf1 d' (lw_close ho hu hkl hxs i2 a1) (wid a6) a2 hbf hw h1 h2 (by omega) (by omega) (ffo a6 a3 a7 a8 (by omega)) hlw
    · rw [i3, List.nil_append] at hw
      exact go s K e z c q now stk gf db (lw_decl ho hu hkl hxs i2' i2) (Fr.rf s) h hb hw h1 h2 h3 (by omega) (FO_next hF hx (by omega)) (fun g _ => by rw [i3, List.nil_append])
    · rw [i3, List.nil_append] at hw
      have hgl : x.2.1 < sg.length := (List.getElem?_eq_some_iff.mp i5).1
      have a1 : ∀ c j, c ≠ 77 + o → mu s (77 + o) x.2.1 ((mm + esz e' - 1 : Nat) : Int) c j = s c j := fun c j hc => mu_c hc
      refine go (mu s (77 + o) x.2.1 ((mm + esz e' - 1 : Nat) : Int)) K e z c q now stk gf db (lw_node ho hu hkl hxs i2 i4 (by omega) i7) ((Fr.rf s).mu (Or.inr rfl)) ?_ hb hw h1 h2 h3 (by omega) (fun j x' y hj hx' h5' hy => ?_) (fun g _ => by rw [i3, List.nil_append])
      · obtain ⟨g1, g2, g3, g4, g5, ⟨t, g6, g6'⟩, g7, g8, g9⟩ := h
        refine ⟨by rw [a1 _ _ (by omega), g1], g2, g3, by rw [a1 _ _ (by omega), g4], g5, ⟨t, by rw [a1 _ _ (by omega), g6], g6'⟩, fun i hi => by rw [a1 _ _ (by omega)]; exact g7 i hi, NS_put ho hN g8 (fun c j hc => a1 _ _ (by omega)) (fun j _ => a1 _ _ (by omega)), fun g hg => ?_⟩
        obtain ⟨b1, ⟨b2, b3, b4⟩, b5⟩ := g9 g hg
        have A : AN o s (mu s (77 + o) x.2.1 ((mm + esz e' - 1 : Nat) : Int)) 25 N := fun c j hc _ _ => a1 _ _ (by omega)
        have C := fun (c j : Nat) (h1 : 74 ≤ c) (h2 : c ≤ 76) (_ : j < K) => a1 (c + o) j (by omega)
        exact ⟨b1, ⟨by rw [a1 _ _ (by omega)]; exact CN1_put hN hL (Nat.le_refl _) b2 A C (fun j _ => a1 _ _ (by omega)), FRM_put hN hL (Nat.le_refl _) A C (fun j _ => a1 _ _ (by omega)) (stk g) (fun i hi => ⟨a1 _ _ (by omega), a1 _ _ (by omega), a1 _ _ (by omega)⟩) b3, TFR_put (stk g) _ _ (fun i hi => a1 _ _ (by omega)) (by rw [a1 _ _ (by omega)]) b4⟩, b5⟩
      · have A : AN o s (mu s (77 + o) x.2.1 ((mm + esz e' - 1 : Nat) : Int)) 25 N := fun c j hc _ _ => a1 _ _ (by omega)
        have C := fun (c j : Nat) (h1 : 74 ≤ c) (h2 : c ≤ 76) (_ : j < K) => a1 (c + o) j (by omega)
        by_cases hg : x'.2.1 = x.2.1
        · rw [hg] at hy ⊢
          rw [i5] at hy
          injection hy with hy
          subst hy
          rw [mu_s]
          refine CN1_put hN hL (Nat.le_refl _) ⟨mm + esz e' - 1, rfl, CD_src (Or.inr ⟨mm, i6, rfl, i8, i9⟩), ?_⟩ A C (fun j _ => a1 _ _ (by omega))
          exact h.2.2.2.2.2.2.2.1.1 e' mm i6 i8 i9
        · rw [mu_i hg]
          by_cases hjk : j = k
          · subst hjk
            rw [hx] at hx'
            injection hx' with hx'
            exact absurd (by rw [hx']) hg
          · exact CN1_put hN hL (Nat.le_refl _) (hF j x' y (by omega) hx' h5' hy) A C (fun j _ => a1 _ _ (by omega))
