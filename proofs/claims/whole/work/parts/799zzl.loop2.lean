/-! THE CLASS: the least signal in a loop -/
def LIF (k _j : Nat) : Prop := k = 150
theorem li_loopA {d o L : Nat} (R : Nat → Nat → Prop) (ho : o = 0 ∨ o = 26) (hL : L ≤ 24) : ∀ (m k : Nat) (s : Mem) (l4 : AV), k + m = L → (∀ g, g < L → ∃ kd : Nat, s (60 + o) g = kd ∧ BT (if kd = 3 then 0 else s (78 + o) g) (R g)) → (∀ g, g < k → BT (s 150 g) (R g)) →
    ∃ s', Ze d 111 10 [aR 137, aR (58 + o), aI L, aI k, l4] [] s = Ze d 111 52 [aR 137, aR (58 + o), aI L, aI ((0 : Nat) : Int), l4] [] s' ∧ (∀ g, g < L → BT (s' 150 g) (R g)) ∧ Fr LIF s s' := by
  intro m
  induction m with
  | zero =>
    intro k s l4 hk h hr
    have : k = L := by omega
    subst this
    exact ⟨s, li_a_end, hr, Fr.rf s⟩
  | succ m ih =>
    intro k s l4 hk h hr
    obtain ⟨kd, h1, h2⟩ := h k (by omega)
    rw [li_a (d := d) (l4 := l4) ho (show k < L by omega) hL h1 rfl]
    obtain ⟨s', e1, e2, e3⟩ := ih (k + 1) (mu s 150 k (if kd = 3 then 0 else s (78 + o) k)) l4 (by omega) (fun g hg => by rw [mu_c (by omega), mu_c (by omega)]; exact h g hg) (fun g hg => by
      by_cases hgk : g = k
      · rw [hgk, mu_s]; exact h2
      · rw [mu_i hgk]; exact hr g (by omega))
    have F1 : Fr LIF s (mu s 150 k (if kd = 3 then 0 else s (78 + o) k)) := (Fr.rf s).mu rfl
    exact ⟨s', e1, e2, F1.tr e3⟩
theorem li_loopC {d o L t : Nat} (R : Nat → Nat → Prop) (hL : L ≤ 24) (ht : t < L) : ∀ (m k : Nat) (s : Mem), k + m = L → (∀ g, g < L → BT (s 150 g) (if g < k then cl1 R t g else R g)) →
    ∃ s', Ze d 111 60 [aR 137, aR (58 + o), aI L, aI t, aI k] [] s = Ze d 111 52 [aR 137, aR (58 + o), aI L, aI ((t + 1 : Nat) : Int), aI L] [] s' ∧ (∀ g, g < L → BT (s' 150 g) (cl1 R t g)) ∧ Fr LIF s s' := by
  intro m
  induction m with
  | zero =>
    intro k s hk h
    have : k = L := by omega
    subst this
    exact ⟨s, li_c_end ht hL, fun g hg => by have := h g hg; rwa [if_pos hg] at this, Fr.rf s⟩
  | succ m ih =>
    intro k s hk h
    have hkl : k < L := by omega
    have hK := h k hkl
    rw [if_neg (by omega)] at hK
    have hT := h t ht
    have hT' : BT (s 150 t) (R t) := by
      by_cases htk : t < k
      · rw [if_pos htk] at hT
        refine BT_iff hT (fun g _ => ?_)
        unfold cl1
        exact ⟨fun z => z.elim id (fun z => z.2), Or.inl⟩
      · rwa [if_neg htk] at hT
    obtain ⟨n, n1, n2, n3⟩ := hK
    rw [li_c (d := d) (o := o) ht hkl hL n1 n2]
    have h3 := n3 t (by omega)
    by_cases hb : n.testBit t = true
    · rw [if_pos hb]
      have hor : BT (ior n (s 150 t)) (cl1 R t k) := by
        refine BT_iff (BT_or (P := R k) ⟨n, rfl, n2, n3⟩ hT') (fun g _ => ?_)
        unfold cl1
        constructor
        · rintro (z | z)
          · exact Or.inl z
          · exact Or.inr ⟨h3.mp hb, z⟩
        · rintro (z | z)
          · exact Or.inl z
          · exact Or.inr z.2
      obtain ⟨s', e1, e2, e3⟩ := ih (k + 1) (mu s 150 k (ior n (s 150 t))) (by omega) (fun g hg => by
        by_cases hgk : g = k
        · rw [hgk, mu_s, if_pos (by omega)]; exact hor
        · rw [mu_i hgk]
          have := h g hg
          by_cases hgl : g < k
          · rw [if_pos hgl] at this
            rw [if_pos (by omega)]
            exact this
          · rw [if_neg hgl] at this
            rw [if_neg (by omega)]
            exact this)
      have F1 : Fr LIF s (mu s 150 k (ior n (s 150 t))) := (Fr.rf s).mu rfl
      exact ⟨s', e1, e2, F1.tr e3⟩
    · rw [if_neg hb]
      refine ih (k + 1) s (by omega) (fun g hg => ?_)
      have := h g hg
      by_cases hgk : g = k
      · subst hgk
        rw [if_pos (by omega)]
        rw [if_neg (by omega)] at this
        refine BT_iff this (fun q _ => ?_)
        unfold cl1
        exact ⟨Or.inl, fun z => z.elim id (fun z => absurd (h3.mpr z.1) hb)⟩
      · by_cases hgl : g < k
        · rw [if_pos hgl] at this
          rw [if_pos (by omega)]
          exact this
        · rw [if_neg hgl] at this
          rw [if_neg (by omega)]
          exact this
theorem li_loopB {d o L : Nat} (R : Nat → Nat → Prop) (hL : L ≤ 24) : ∀ (m t : Nat) (s : Mem) (l4 : AV), t + m = L → (∀ g, g < L → BT (s 150 g) (clN R t g)) →
    ∃ s' l4', Ze d 111 52 [aR 137, aR (58 + o), aI L, aI t, l4] [] s = Ze d 111 111 [aR 137, aR (58 + o), aI L, aI ((0 : Nat) : Int), l4'] [] s' ∧ (∀ g, g < L → BT (s' 150 g) (clN R L g)) ∧ Fr LIF s s' := by
  intro m
  induction m with
  | zero =>
    intro t s l4 ht h
    have : t = L := by omega
    subst this
    exact ⟨s, l4, li_b_end, h, Fr.rf s⟩
  | succ m ih =>
    intro t s l4 ht h
    have htl : t < L := by omega
    rw [li_b htl]
    obtain ⟨s1, e1, e2, e3⟩ := li_loopC (d := d) (o := o) (clN R t) hL htl L 0 s (Nat.zero_add _) (fun g hg => by rw [if_neg (by omega)]; exact h g hg)
    rw [e1]
    obtain ⟨s2, l4', f1, f2, f3⟩ := ih (t + 1) s1 (aI L) (by omega) e2
    exact ⟨s2, l4', f1, f2, e3.tr f3⟩
theorem li_loopD {d o L : Nat} (R : Nat → Nat → Prop) (hL : L ≤ 24) {s : Mem} {l4 : AV} (h : ∀ g, g < L → BT (s 150 g) (R g)) : ∀ m k : Nat, k + m = L → (∀ j, j < k → ¬ R j j) → (Ze d 111 111 [aR 137, aR (58 + o), aI L, aI k, l4] [] s = rI (-1) s ∧ ∀ j, j < L → ¬ R j j) ∨ (∃ q : Nat, Ze d 111 111 [aR 137, aR (58 + o), aI L, aI k, l4] [] s = rI q s ∧ q < L ∧ R q q ∧ ∀ j, j < q → ¬ R j j) := by
  intro m
  induction m with
  | zero =>
    intro k hk hj
    have : k = L := by omega
    subst this
    exact Or.inl ⟨li_d_end, hj⟩
  | succ m ih =>
    intro k hk hj
    have hkl : k < L := by omega
    obtain ⟨n, n1, n2, n3⟩ := h k hkl
    rw [li_d (d := d) (o := o) hkl hL n1 n2]
    have h3 := n3 k (by omega)
    by_cases hb : n.testBit k = true
    · rw [if_pos hb]
      exact Or.inr ⟨k, rfl, hkl, h3.mp hb, hj⟩
    · rw [if_neg hb]
      exact ih (k + 1) (by omega) (fun j hjk => by
        by_cases hjk' : j = k
        · rw [hjk']; exact fun z => hb (h3.mpr z)
        · exact hj j (by omega))
theorem k_leastInLoop {d o : Nat} {sg : List Sg} {lo : List Lo} {s : Mem} (hd : 1 ≤ d) (ho : o = 0 ∨ o = 26) (hS : SGA s o sg) (hN : ND s o sg lo) (hH : HI sg lo) (hu : ∀ j, j < sg.length → ¬ unset sg lo j) :
    ∃ s', Fr LIF s s' ∧ ((Zc d 111 [aR 137, aR (58 + o)] s = rI (-1) s' ∧ ∀ j, j < sg.length → ¬ cyc (dpd sg lo) (rgs sg) j) ∨ (∃ k : Nat, Zc d 111 [aR 137, aR (58 + o)] s = rI k s' ∧ k < sg.length ∧ cyc (dpd sg lo) (rgs sg) k ∧ ∀ j, j < k → ¬ cyc (dpd sg lo) (rgs sg) j)) := by
  obtain ⟨d, rfl⟩ : ∃ e, d = e + 1 := ⟨d - 1, by omega⟩
  obtain ⟨h1, hL, h3⟩ := hS
  have e0 : Zc (d + 1) 111 [aR 137, aR (58 + o)] s = Ze d 111 10 [aR 137, aR (58 + o), aI sg.length, aI ((0 : Nat) : Int), aU] [] s := by
    have z0 : ((0 : Nat) : Int) = 0 := rfl
    simp (disch := first | exact obC_137 | exact (obCO_58 ho) | exact (obCO_59 ho) | omega | (simp only [aN1_150, (aN1O_60 ho), (aN1O_78 ho)]; omega) | (simp only [List.length_cons, List.length_nil]; omega)) only [en111, x111_0, x111_1, x111_4, x111_7, x111_8, x111_9, x111_11, x111_12, x111_15, x111_16, x111_19, x111_20, x111_21, x111_24, x111_27, x111_28, x111_29, x111_30, x111_33, x111_34, x111_37, x111_38, x111_41, x111_42, x111_43, x111_44, x111_47, x111_50, x111_51, x111_53, x111_54, x111_57, x111_58, x111_62, x111_63, x111_66, x111_67, x111_70, x111_72, x111_73, x111_74, x111_75, x111_76, x111_77, x111_78, x111_81, x111_82, x111_85, x111_87, x111_88, x111_89, x111_90, x111_93, x111_94, x111_95, x111_96, x111_97, x111_100, x111_103, x111_106, x111_109, x111_110, x111_112, x111_113, x111_116, x111_117, x111_120, x111_121, x111_122, x111_123, x111_124, x111_125, x111_126, x111_127, x111_130, x111_131, x111_132, x111_135, x111_138, x111_139, fcn_137_8, (fcnO_58_0 ho), (fcnO_58_8 ho), (fcnO_59_0 ho), if_true, if_false, eq_self, Int.reduceEq, Int.reduceLT, Int.reduceLE, Int.reduceAdd, Int.reduceSub, Int.reduceMul, Int.reduceToNat, Nat.reduceAdd, Nat.reduceMul, Nat.reduceEqDiff, Int.toNat_natCast, wrap_id, h1, z0]
  rw [e0]
  have hD : ∀ g h, dpd sg lo g h → g < sg.length := fun g h ⟨x, hx, _⟩ => (List.getElem?_eq_some_iff.mp hx).1
  obtain ⟨s1, a1, a2, a3⟩ := li_loopA (d := d) (fun k h => ¬ rgs sg k ∧ dpd sg lo k h) ho hL sg.length 0 s aU (Nat.zero_add _) (fun g hg => by
    have hx := List.getElem?_eq_getElem hg
    refine ⟨sg[g].1, (h3 g _ hx).1, ?_⟩
    have hun := unset_iff (lo := lo) hH hx
    obtain ⟨n1, n2⟩ := hN g _ hx
    generalize sg[g] = x at hx n1 n2 hun
    by_cases hr : x.1 = 3
    · rw [if_pos hr]
      exact BT_iff BT_0 (fun h _ => ⟨fun z => z.elim, fun z => z.1 ⟨x, hx, hr⟩⟩)
    · rw [if_neg hr]
      have hnr : ¬ rgs sg g := fun ⟨y, hy, hy3⟩ => by
        rw [hx] at hy
        injection hy with hy
        subst hy
        exact hr hy3
      by_cases hs : isSk x.1 x.2.2.1 ∨ x.1 = 4
      · have hi : ini (form sg lo g) = true := by
          cases hi : ini (form sg lo g) with
          | true => rfl
          | false => exact absurd (hun.mpr ⟨hs, hi⟩) (hu g hg)
        exact BT_iff (BU_BT hi (n1 hs)) (fun h _ => ⟨fun z => ⟨hnr, x, hx, hs, z⟩, fun ⟨_, y, hy, _, z⟩ => z⟩)
      · rw [n2 hs]
        exact BT_iff BT_0 (fun h _ => ⟨fun z => z.elim, fun ⟨_, y, hy, hy2, _⟩ => by
          rw [hx] at hy
          injection hy with hy
          subst hy
          exact hs hy2⟩)) (fun g hg => by omega)
  obtain ⟨s2, l4, b1, b2, b3⟩ := li_loopB (d := d) (o := o) (fun k h => ¬ rgs sg k ∧ dpd sg lo k h) hL sg.length 0 s1 aU (Nat.zero_add _) a2
  refine ⟨s2, a3.tr b3, ?_⟩
  rw [a1, b1]
  have key := fun j => clN_reach (L := sg.length) (rg := rgs sg) hL hD j j
  rcases li_loopD (d := d) (o := o) (l4 := l4) _ hL b2 sg.length 0 (Nat.zero_add _) (fun j hj => by omega) with ⟨c1, c2⟩ | ⟨q, c1, c2, c3, c4⟩
  · exact Or.inl ⟨c1, fun j hj z => c2 j hj ((key j).mpr z)⟩
  · exact Or.inr ⟨q, c1, c2, (key q).mp c3, fun j hj z => c4 j hj ((key j).mpr z)⟩
