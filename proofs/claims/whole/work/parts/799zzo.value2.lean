/-! THE CLASS: the value of an expression -/
def HeF (o a b k j : Nat) : Prop := k = 73 + o ∧ a ≤ j ∧ j < b
theorem WAc_fr {s s' : Mem} {o N : Nat} {W : Nat → Nat} (h : WAc s o W N) (g : ∀ k j, 67 ≤ k ∧ k ≤ 72 → s' (k + o) j = s (k + o) j) : WAc s' o W N := by
  intro e m hc hm hi
  have hc' : CR s o e m := CR_put hc (fun k j hk _ _ => (g k j ⟨hk.1, by omega⟩).symm)
  obtain ⟨a, b⟩ := h e m hc' hm hi
  exact ⟨by rw [g _ _ (by decide), a], b⟩
theorem HeF_le {o a b a' b' : Nat} {s s' : Mem} (h1 : a' ≤ a) (h2 : b ≤ b') (f : Fr (HeF o a b) s s') : Fr (HeF o a' b') s s' := f.mono (fun _ _ ⟨x, y, z⟩ => ⟨x, by omega, by omega⟩)
theorem HeF_AN {o a b c d : Nat} {s s' : Mem} (f : Fr (HeF o a b) s s') : AN o s s' c d := fun k j hk _ _ => f _ _ (by unfold HeF; omega)
theorem HeF_WA {o a b N : Nat} {s s' : Mem} {W : Nat → Nat} (f : Fr (HeF o a b) s s') (h : WAc s o W N) : WAc s' o W N := WAc_fr h (fun k j hk => f _ _ (by unfold HeF; omega))
theorem evc_all {d o root N : Nat} {val : Nat → Int} {W : Nat → Nat} (hd : 2 ≤ d) (ho : o = 0 ∨ o = 26) (hr : root < 225) : ∀ (k : Nat) (e : Jvm.Term) (n : Nat) (s : Mem), esz e ≤ k → CR s o e n → WAc s o W N → (∀ g, g < 24 → s (80 + o) g = val g) → 25 ≤ n → n + esz e ≤ root + 1 → n + esz e ≤ N → ∃ s', Ze d 120 17 [aR (66 + o), aI root, aR (80 + o), aI n] [] s = Ze d 120 17 [aR (66 + o), aI root, aR (80 + o), aI ((n + esz e : Nat) : Int)] [] s' ∧ s' (73 + o) (n + esz e - 1) = vE val W e ∧ Fr (HeF o n (n + esz e)) s s' := by
  intro k
  induction k with
  | zero =>
    intro e n s hk
    have := esz_pos e
    omega
  | succ k ih =>
    intro e n s hk hc hW hv hn hr2 hN
    have nowF : ∀ {a b : Nat} {s s' : Mem}, Fr (HeF o a b) s s' → (∀ g, g < 24 → s (80 + o) g = val g) → ∀ g, g < 24 → s' (80 + o) g = val g := fun f h g hg => by rw [f _ _ (by unfold HeF; omega)]; exact h g hg
    have hWe := fun s (hc : CR s o e n) (hW : WAc s o W N) => (hW e n hc hn hN).1
    have last : ∀ (s1 : Mem) (x : Int), CR s1 o e n → WAc s1 o W N → Zc d 121 [aR (66 + o), aI (n + esz e - 1 : Nat), aR (80 + o)] s1 = rI x s1 → iand x (msk (wE W e)) = vE val W e → Ze d 120 17 [aR (66 + o), aI root, aR (80 + o), aI n] [] s = Ze d 120 17 [aR (66 + o), aI root, aR (80 + o), aI ((n + esz e - 1 : Nat) : Int)] [] s1 → Fr (HeF o n (n + esz e)) s s1 → ∃ s', Ze d 120 17 [aR (66 + o), aI root, aR (80 + o), aI n] [] s = Ze d 120 17 [aR (66 + o), aI root, aR (80 + o), aI ((n + esz e : Nat) : Int)] [] s' ∧ s' (73 + o) (n + esz e - 1) = vE val W e ∧ Fr (HeF o n (n + esz e)) s s' := by
      intro s1 x h1 h2 h3 h4 h5 h6
      have hp := esz_pos e
      have e1 := evc_step (d := d) (n := 80 + o) (by omega) ho hr (show n + esz e - 1 ≤ root by omega) h3 (hWe s1 h1 h2)
      rw [show n + esz e - 1 + 1 = n + esz e by omega] at e1
      refine ⟨_, by rw [h5, e1], by rw [mu_s, h4], h6.mu ⟨rfl, by omega, by omega⟩⟩
    have hc0 := hc
    revert hc hk hN hr2 last hWe hc0
    fun_cases CR s o e n with
    | case1 a =>
      rintro hk ⟨h1, h2, h3, h4⟩ hr2 hN hWe last hc0
      simp only [esz] at hk hr2 hN last ⊢
      have hp := esz_pos a
      obtain ⟨s1, a1, a2, a3⟩ := ih a n s (by omega) h4 hW hv hn (by omega) (by omega)
      have e1 : n + (1 + esz a) - 1 = n + esz a := by omega
      rw [e1] at last ⊢
      have hF : ∀ q, 67 ≤ q ∧ q ≤ 71 → ∀ j, s1 (q + o) j = s (q + o) j := fun q hq j => a3 _ _ (by unfold HeF; omega)
      refine last s1 _ (CR_put hc0 (HeF_AN a3)) (HeF_WA a3 hW) (wk_not (by omega) ho (by omega) (by rw [hF _ (by decide), h1]) (by rw [hF _ (by decide), h2]) (by omega) a2 _) rfl a1 (HeF_le (Nat.le_refl _) (by omega) a3)
    | case2 h l a =>
      rintro hk ⟨h1, h2, h3, h4, h5, h6, h7⟩ hr2 hN hWe last hc0
      simp only [esz] at hk hr2 hN last ⊢
      have hp := esz_pos a
      obtain ⟨s1, a1, a2, a3⟩ := ih a n s (by omega) h7 hW hv hn (by omega) (by omega)
      have e1 : n + (1 + esz a) - 1 = n + esz a := by omega
      rw [e1] at last ⊢
      have hF : ∀ q, 67 ≤ q ∧ q ≤ 71 → ∀ j, s1 (q + o) j = s (q + o) j := fun q hq j => a3 _ _ (by unfold HeF; omega)
      refine last s1 _ (CR_put hc0 (HeF_AN a3)) (HeF_WA a3 hW) (wk_bits (by omega) ho (by omega) (by rw [hF _ (by decide), h1]) (by rw [hF _ (by decide), h2]) (by omega) a2 (by rw [hF _ (by decide), h4]) _) rfl a1 (HeF_le (Nat.le_refl _) (by omega) a3)
    | case3 c a b =>
      rintro hk ⟨h1, h2, h3, h4, h5, h6, h7⟩ hr2 hN hWe last hc0
      simp only [esz] at hk hr2 hN last ⊢
      have hp := esz_pos a
      have hp2 := esz_pos b
      obtain ⟨s1, a1, a2, a3⟩ := ih a n s (by omega) h6 hW hv hn (by omega) (by omega)
      obtain ⟨s2, b1, b2, b3⟩ := ih b (n + esz a) s1 (by omega) (CR_put h7 (HeF_AN a3)) (HeF_WA a3 hW) (nowF a3 hv) (by omega) (by omega) (by omega)
      have e1 : n + (1 + esz a + esz b) - 1 = n + esz a + esz b := by omega
      rw [e1] at last ⊢
      have F : Fr (HeF o n (n + (1 + esz a + esz b))) s s2 := (HeF_le (Nat.le_refl _) (by omega) a3).tr (HeF_le (by omega) (by omega) b3)
      have hF : ∀ q, 67 ≤ q ∧ q ≤ 71 → ∀ j, s2 (q + o) j = s (q + o) j := fun q hq j => F _ _ (by unfold HeF; omega)
      have hwb := ((HeF_WA F hW) b (n + esz a) (CR_put h7 (HeF_AN F)) (by omega) (by omega)).1
      refine last s2 _ (CR_put hc0 (HeF_AN F)) (HeF_WA F hW) (wk_two hd ho (by omega) h2 (by rw [hF _ (by decide), h1]) (by rw [hF _ (by decide), h3]) (by omega) (by rw [b3 _ _ (by unfold HeF; omega)]; exact a2) (by rw [hF _ (by decide), h4]) (by omega) b2 hwb _) rfl (by rw [a1, b1]) F
    | case4 c a b =>
      rintro hk ⟨h1, h2, h3, h4, h5, h6, h7, h8⟩ hr2 hN hWe last hc0
      simp only [esz] at hk hr2 hN last ⊢
      have hp := esz_pos a
      have hp2 := esz_pos b
      have hp3 := esz_pos c
      obtain ⟨s1, a1, a2, a3⟩ := ih c n s (by omega) h6 hW hv hn (by omega) (by omega)
      obtain ⟨s2, b1, b2, b3⟩ := ih a (n + esz c) s1 (by omega) (CR_put h7 (HeF_AN a3)) (HeF_WA a3 hW) (nowF a3 hv) (by omega) (by omega) (by omega)
      obtain ⟨s3, c1, c2, c3⟩ := ih b (n + esz c + esz a) s2 (by omega) (CR_put (CR_put h8 (HeF_AN a3)) (HeF_AN b3)) (HeF_WA b3 (HeF_WA a3 hW)) (nowF b3 (nowF a3 hv)) (by omega) (by omega) (by omega)
      have e1 : n + (1 + esz c + esz a + esz b) - 1 = n + esz c + esz a + esz b := by omega
      rw [e1] at last ⊢
      have F : Fr (HeF o n (n + (1 + esz c + esz a + esz b))) s s3 := ((HeF_le (Nat.le_refl _) (by omega) a3).tr (HeF_le (by omega) (by omega) b3)).tr (HeF_le (by omega) (by omega) c3)
      have hF : ∀ q, 67 ≤ q ∧ q ≤ 71 → ∀ j, s3 (q + o) j = s (q + o) j := fun q hq j => F _ _ (by unfold HeF; omega)
      refine last s3 _ (CR_put hc0 (HeF_AN F)) (HeF_WA F hW) (wk_mux (by omega) ho (by omega) (by rw [hF _ (by decide), h1]) (by rw [hF _ (by decide), h2]) (by omega) (by rw [c3 _ _ (by unfold HeF; omega), b3 _ _ (by unfold HeF; omega)]; exact a2) (by rw [hF _ (by decide), h3]) (by omega) (by rw [c3 _ _ (by unfold HeF; omega)]; exact b2) (by rw [hF _ (by decide), h4]) (by omega) c2 _) rfl (by rw [a1, b1, c1]) F
    | case5 g =>
      rintro hk ⟨h1, h2, h3, h4⟩ hr2 hN hWe last hc0
      simp only [esz] at hk hr2 hN last ⊢
      exact last s _ hc0 hW (wk_sig (by omega) ho (by omega) h1 h2 h3 (hv g h3)) rfl rfl (Fr.rf s)
    | case6 v =>
      rintro hk ⟨h1, h2, h3, h4⟩ hr2 hN hWe last hc0
      simp only [esz] at hk hr2 hN last ⊢
      exact last s _ hc0 hW (wk_num (r := 0) (by omega) ho (by omega) h1 h2 _) rfl rfl (Fr.rf s)
    | case7 => exact fun _ h => h.elim
theorem k_evaluate {d o N n : Nat} {val : Nat → Int} {W : Nat → Nat} {e : Jvm.Term} {s : Mem} (hd : 3 ≤ d) (ho : o = 0 ∨ o = 26) (hN : N ≤ 225) (hc : CR s o e n) (hW : WAc s o W N) (hv : ∀ g, g < 24 → s (80 + o) g = val g) (hn : 25 ≤ n) (hn2 : n + esz e ≤ N) : ∃ s', Zc d 120 [aR (66 + o), aI (n + esz e - 1 : Nat), aR (80 + o)] s = rI (vE val W e) s' ∧ Fr (HeF o n (n + esz e)) s s' := by
  obtain ⟨d, rfl⟩ : ∃ e, d = e + 1 := ⟨d - 1, by omega⟩
  have hp := esz_pos e
  obtain ⟨root, hroot⟩ : ∃ r, n + esz e = r + 1 := ⟨n + esz e - 1, by omega⟩
  obtain ⟨s', a1, a2, a3⟩ := evc_all (d := d) (root := root) (by omega) ho (by omega) (esz e) e n s (Nat.le_refl _) hc hW hv hn (by omega) hn2
  refine ⟨s', ?_, a3⟩
  have hf := CR_first hc
  rw [hroot, Nat.add_sub_cancel] at a2 hf ⊢
  rw [hroot] at a1
  rw [evc_start ho (by omega) (by omega) hf, a1, evc_end ho (by omega), a2]
