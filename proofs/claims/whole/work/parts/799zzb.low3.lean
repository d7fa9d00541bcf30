/-! THE CLASS: the steps of the lowering -/
theorem LW_AN {o a b : Nat} {s s' : Mem} (ho : o = 0 ∨ o = 26) (f : Fr (LWF o) s s') : AN o s s' a b := fun k j hk _ _ => f _ _ (by unfold LWF; omega)
theorem tb_nat {t g : Nat} : tbit (t : Int) g ↔ t.testBit g = true := by unfold tbit; rw [Int.toNat_natCast]
theorem L_open {d o N L K e m : Nat} {c : Jvm.Term} {now : Nat → Jvm.Term} {stk : Nat → List Fm} {gf : List Bool} {s : Mem} (hd : 1 ≤ d) (ho : o = 0 ∨ o = 26) (hN : N ≤ 225) (hL : L ≤ 24) (h : LGS s o N L K e now stk gf) (he : e < 3) (hc : CR s o c m) (hm : 25 ≤ m ∧ m + esz c ≤ N) :
    ∃ s', Zc d 106 [aR 137, aI ((m + esz c - 1 : Nat) : Int)] s = rV s' ∧ LGS s' o N L K (e + 1) now (fun g => (now g, none, c, false) :: stk g) (false :: gf) ∧ Fr (LWF o) s s' ∧ KP o K s s' := by
  obtain ⟨h1, h2, h3, h4, h5, ⟨t, h6, h6'⟩, h7, h8, h9⟩ := h
  refine ⟨_, k_open hd he h1 h6, ?_⟩
  have a1 : ∀ k j, k ≠ 137 → k ≠ 148 → k ≠ 149 → k ≠ 141 + e → opS s e ((m + esz c - 1 : Nat) : Int) t k j = s k j := fun k j b1 b2 b3 b4 => by
    unfold opS
    rw [mu_c b1, mu_c b1, mu_c b3, cp_o (Or.inl b4), mu_c b2]
  have a2 : opS s e ((m + esz c - 1 : Nat) : Int) t 137 9 = ((e + 1 : Nat) : Int) := by unfold opS; rw [mu_s]; rfl
  have a3 : opS s e ((m + esz c - 1 : Nat) : Int) t 137 10 = ((0 : Nat) : Int) := by unfold opS; rw [mu_i (by decide), mu_s]; rfl
  have a4 : opS s e ((m + esz c - 1 : Nat) : Int) t 149 e = t := by unfold opS; rw [mu_c (by decide), mu_c (by decide), mu_s]
  have a5 : ∀ i, i ≠ e → opS s e ((m + esz c - 1 : Nat) : Int) t 149 i = s 149 i := fun i hi => by unfold opS; rw [mu_c (by decide), mu_c (by decide), mu_i hi, cp_o (by omega), mu_c (by decide)]
  have a6 : ∀ g, g < 24 → opS s e ((m + esz c - 1 : Nat) : Int) t (141 + e) g = s 139 g := fun g hg => by unfold opS; rw [mu_c (by omega), mu_c (by omega), mu_c (by omega), cp_i hg, mu_c (by decide)]
  have a7 : opS s e ((m + esz c - 1 : Nat) : Int) t 148 e = ((m + esz c - 1 : Nat) : Int) := by unfold opS; rw [mu_c (by decide), mu_c (by decide), mu_c (by decide), cp_o (by omega), mu_s]
  have a8 : ∀ i, i ≠ e → opS s e ((m + esz c - 1 : Nat) : Int) t 148 i = s 148 i := fun i hi => by unfold opS; rw [mu_c (by decide), mu_c (by decide), mu_c (by decide), cp_o (by omega), mu_i hi]
  have F : Fr (LWF o) s (opS s e ((m + esz c - 1 : Nat) : Int) t) := by
    intro k j hn
    unfold LWF at hn
    by_cases b1 : k = 137
    · subst b1
      unfold opS
      rw [mu_i (by omega), mu_i (by omega), mu_c (by decide), cp_o (by omega), mu_c (by decide)]
    · exact a1 k j b1 (by omega) (by omega) (by omega)
  generalize opS s e ((m + esz c - 1 : Nat) : Int) t = s1 at *
  have hA : ∀ a b, AN o s s1 a b := fun a b => LW_AN ho F
  have hcC : ∀ c j, 74 ≤ c → c ≤ 76 → j < K → s1 (c + o) j = s (c + o) j := fun c j h1 h2 _ => a1 _ _ (by omega) (by omega) (by omega) (by omega)
  have hn : ∀ j, j < 225 + K → s1 138 j = s 138 j := fun j _ => a1 _ _ (by decide) (by decide) (by decide) (by omega)
  refine ⟨⟨a2, by omega, by rw [List.length_cons, h3], by rw [a1 _ _ (by omega) (by omega) (by omega) (by omega), h4], h5, ⟨0, a3, by decide⟩, fun i hi => ?_, NS_put ho hN h8 (fun k j hk => a1 _ _ (by omega) (by omega) (by omega) (by omega)) (fun j _ => a1 _ _ (by decide) (by decide) (by decide) (by omega)), fun g hg => ?_⟩, F, hcC, hn⟩
  · by_cases hie : i = e
    · rw [hie, a4]
      exact ⟨t, rfl, h6'⟩
    · rw [a5 i hie]
      exact h7 i (by omega)
  · obtain ⟨b1, ⟨b2, b3, b4⟩, b5⟩ := h9 g hg
    have hst : s1 139 g = s 139 g := a1 _ _ (by decide) (by decide) (by decide) (by omega)
    have hcn : CN1 s1 o N L K (now g) (s 139 g) := CN1_put hN hL (Nat.le_refl _) b2 (hA _ _) hcC hn
    refine ⟨by rw [List.length_cons, b1], ⟨by rw [hst]; exact hcn, ⟨by rw [b1, a6 g hg]; exact hcn, ⟨m, by rw [b1, a7], CR_put hc (hA _ _), hm⟩, fun t ht => (by cases ht), FRM_put hN hL (Nat.le_refl _) (hA _ _) hcC hn (stk g) (fun i hi => ⟨a1 _ _ (by omega) (by omega) (by omega) (by omega), a1 _ _ (by omega) (by omega) (by omega) (by omega), a8 i (by omega)⟩) b3⟩, ?_⟩, ⟨fun z => (by cases z), b5⟩⟩
    rw [a3]
    refine ⟨⟨fun z => (by cases z), fun z => ?_⟩, TFR_put (stk g) _ _ (fun i hi => a5 i (by omega)) ?_ b4⟩
    · rw [tb_nat, Nat.zero_testBit] at z
      cases z
    · rw [b1, a4, h6]
      constructor
      · exact Or.inr
      · rintro (z | z)
        · rw [tb_nat, Nat.zero_testBit] at z
          cases z
        · exact z
theorem L_turn {d o N L K i : Nat} {now : Nat → Jvm.Term} {stk : Nat → List Fm} {gf : List Bool} {s : Mem} (hd : 1 ≤ d) (ho : o = 0 ∨ o = 26) (hN : N ≤ 225) (hL : L ≤ 24) (f : Nat → Fm) (r : Nat → List Fm) (hst : ∀ g, g < 24 → stk g = f g :: r g) (h : LGS s o N L K (i + 1) now stk gf) :
    ∃ s', Zc d 107 [aR 137] s = rV s' ∧ LGS s' o N L K (i + 1) (fun g => (f g).1) (fun g => ((f g).1, some (now g), (f g).2.2.1, (f g).2.2.2) :: r g) gf ∧ Fr (LWF o) s s' ∧ KP o K s s' := by
  obtain ⟨h1, h2, h3, h4, h5, ⟨t, h6, h6'⟩, h7, h8, h9⟩ := h
  have hi3 : i < 3 := by omega
  refine ⟨_, k_turn hd hi3 h1, ?_⟩
  have a1 : ∀ k j, k ≠ 139 → k ≠ 145 + i → tnS s i k j = s k j := fun k j b1 b2 => by
    unfold tnS
    rw [cp_o (Or.inl b1), cp_o (Or.inl b2)]
  have a2 : ∀ g, g < 24 → tnS s i (145 + i) g = s 139 g := fun g hg => by unfold tnS; rw [cp_o (by omega), cp_i hg]
  have a3 : ∀ g, g < 24 → tnS s i 139 g = s (141 + i) g := fun g hg => by unfold tnS; rw [cp_i hg, cp_o (by omega)]
  have F : Fr (LWF o) s (tnS s i) := fun k j hn => a1 k j (fun z => hn (by unfold LWF; omega)) (fun z => hn (by unfold LWF; omega))
  generalize tnS s i = s1 at *
  have hA : ∀ a b, AN o s s1 a b := fun a b => LW_AN ho F
  have hcC : ∀ c j, 74 ≤ c → c ≤ 76 → j < K → s1 (c + o) j = s (c + o) j := fun c j h1 h2 _ => a1 _ _ (by omega) (by omega)
  have hn : ∀ j, j < 225 + K → s1 138 j = s 138 j := fun j _ => a1 _ _ (by decide) (by omega)
  refine ⟨⟨by rw [a1 _ _ (by decide) (by omega), h1], h2, h3, by rw [a1 _ _ (by omega) (by omega), h4], h5, ⟨t, by rw [a1 _ _ (by decide) (by omega), h6], h6'⟩, fun q hq => by rw [a1 _ _ (by decide) (by omega)]; exact h7 q hq, NS_put ho hN h8 (fun k j hk => a1 _ _ (by omega) (by omega)) (fun j _ => a1 _ _ (by decide) (by omega)), fun g hg => ?_⟩, F, hcC, hn⟩
  obtain ⟨b1, ⟨b2, b3, b4⟩, b5⟩ := h9 g hg
  rw [hst g hg] at b1 b3 b4 b5
  rw [List.length_cons] at b1
  have hr : (r g).length = i := by omega
  obtain ⟨c1, ⟨m, c2, c3, c4⟩, c5, c6⟩ := b3
  obtain ⟨d1, d2⟩ := b4
  rw [hr] at c1 c2 c5
  have hbf : s1 (141 + i) g = s (141 + i) g := a1 _ _ (by omega) (by omega)
  have hcn : CN1 s1 o N L K (f g).1 (s (141 + i) g) := CN1_put hN hL (Nat.le_refl _) c1 (hA _ _) hcC hn
  refine ⟨by rw [List.length_cons, hr], ⟨by rw [a3 g hg]; exact hcn, ⟨by rw [hr, hbf]; exact hcn, ⟨m, by rw [hr, a1 _ _ (by decide) (by omega), c2], CR_put c3 (hA _ _), c4⟩, fun t' ht => ?_, FRM_put hN hL (Nat.le_refl _) (hA _ _) hcC hn (r g) (fun q hq => ⟨a1 _ _ (by omega) (by omega), a1 _ _ (by omega) (by omega), a1 _ _ (by decide) (by omega)⟩) c6⟩, ⟨?_, TFR_put (r g) _ _ (fun q hq => a1 _ _ (by decide) (by omega)) ?_ d2⟩⟩, ?_⟩
  · injection ht with ht
    subst ht
    rw [hr, a2 g hg]
    exact CN1_put hN hL (Nat.le_refl _) b2 (hA _ _) hcC hn
  · rw [a1 _ _ (by decide) (by omega)]
    exact d1
  · rw [a1 _ _ (by decide) (by omega), a1 _ _ (by decide) (by omega)]
  · cases gf with
    | nil => unfold GFl; trivial
    | cons b bs => exact ⟨b5.1, b5.2⟩
