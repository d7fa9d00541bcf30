/-! THE CLASS: the whole order -/
def FOF (o k j : Nat) : Prop := k = 79 + o ∨ (k = 58 + o ∧ j = 10)
def AIN (sg : List Sg) (lo : List Lo) : Prop := ∀ (g : Nat) (x : Sg), sg[g]? = some x → isSk x.1 x.2.2.1 ∨ x.1 = 4 → ini (form sg lo g) = true
def rdy (sg : List Sg) (lo : List Lo) (l : List Nat) (g : Nat) : Prop := ¬ basg sg g ∧ g ∉ l ∧ ∀ h, dpd sg lo g h → basg sg h ∨ h ∈ l
theorem ff_a {d o : Nat} {sg : List Sg} {s : Mem} (hd : 1 ≤ d) (ho : o = 0 ∨ o = 26) (hS : SGA s o sg) : ∀ (m k : Nat) (kn : Int), k + m = sg.length → BT kn (fun h => h < k ∧ basg sg h) → ∃ kn' l3, Ze d 93 4 [aR (58 + o), aI kn, aI k, aU] [] s = Ze d 93 58 [aR (58 + o), aI kn', aI ((0 : Nat) : Int), l3] [] (mu s (58 + o) 10 ((0 : Nat) : Int)) ∧ KN kn' sg [] := by
  intro m
  induction m with
  | zero =>
    intro k kn hk hb
    have : k = sg.length := by omega
    subst this
    refine ⟨kn, aU, fo_a_end ho hS.1, BT_iff hb (fun h _ => ⟨fun z => Or.inl z.2, fun z => ?_⟩)⟩
    rcases z with ⟨x, hx, hb⟩ | z
    · exact ⟨(List.getElem?_eq_some_iff.mp hx).1, x, hx, hb⟩
    · simp at z
  | succ m ih =>
    intro k kn hk hb
    have hkl : k < sg.length := by omega
    have hx := List.getElem?_eq_getElem hkl
    obtain ⟨q1, q2⟩ := hS.2.2 k _ hx
    have hbx := basg_x hx
    have hL := hS.2.1
    generalize sg[k] = x at hx q1 q2 hbx
    by_cases hbb : bas x
    · have hc : x.1 = 3 ∨ ¬ (isSk x.1 x.2.2.1 ∨ x.1 = 4) := hbb.imp id (fun z y => y.elim z.2 z.1)
      rw [fo_set (d := d) hd ho hS.1 hkl hL q1 q2 hc]
      refine ih (k + 1) _ (by omega) (BT_iff (BT_or hb (BT_one (show k < 24 by omega))) (fun h _ => ⟨fun z => ?_, fun z => ?_⟩))
      · rcases z with z | z
        · exact ⟨by omega, z.2⟩
        · exact ⟨by omega, z ▸ hbx.mpr hbb⟩
      · by_cases hhk : h = k
        · exact Or.inr hhk
        · exact Or.inl ⟨by omega, z.2⟩
    · have h3 : ¬ x.1 = 3 := fun z => hbb (Or.inl z)
      have hs : isSk x.1 x.2.2.1 ∨ x.1 = 4 := Classical.byContradiction fun z => hbb (Or.inr ⟨fun y => z (Or.inr y), fun y => z (Or.inl y)⟩)
      rw [fo_skip (d := d) hd ho hS.1 hkl hL q1 q2 h3 hs]
      refine ih (k + 1) kn (by omega) (BT_iff hb (fun h _ => ⟨fun z => ⟨by omega, z.2⟩, fun z => ⟨?_, z.2⟩⟩))
      have : h ≠ k := fun y => by
        have := z.2
        rw [y] at this
        exact hbb (hbx.mp this)
      omega
theorem ff_k {d o r : Nat} {sg : List Sg} {lo : List Lo} (ho : o = 0 ∨ o = 26) (hA : AIN sg lo) (hD : ∀ g h, dpd sg lo g h → h < sg.length) : ∀ (m k : Nat) (s : Mem) (kn : Int) (l : List Nat), k + m = sg.length → SGA s o sg → ND s o sg lo → OM s o l → OL sg lo l → KN kn sg l → ∃ s' kn' l', Ze d 93 71 [aR (58 + o), aI kn, aI r, aI k] [] s = Ze d 93 71 [aR (58 + o), aI kn', aI r, aI sg.length] [] s' ∧ OM s' o l' ∧ OL sg lo l' ∧ KN kn' sg l' ∧ (∃ t, l' = l ++ t) ∧ (∀ g, k ≤ g → g < sg.length → rdy sg lo l g → g ∈ l') ∧ Fr (FOF o) s s' := by
  intro m
  induction m with
  | zero =>
    intro k s kn l hk hS hN hO hl hK
    have : k = sg.length := by omega
    subst this
    exact ⟨s, kn, l, rfl, hO, hl, hK, ⟨[], by rw [List.append_nil]⟩, fun g h1 h2 => by omega, Fr.rf s⟩
  | succ m ih =>
    intro k s kn l hk hS hN hO hl hK
    have hkl : k < sg.length := by omega
    have hx := List.getElem?_eq_getElem hkl
    obtain ⟨n1, n2⟩ := hN k _ hx
    have hbx := basg_x hx
    have hAx := hA k _ hx
    have hL := hS.2.1
    obtain ⟨kv, k1, k2, k3⟩ := hK
    have hbit := b_bit (n := kv) (h := k) k2 (by omega)
    have hk3 := k3 k (by omega)
    have skip : ¬ rdy sg lo l k → (iand (ishr kn k) 1 = 1 ∨ (iand (ishr kn k) 1 = 0 ∧ ¬ iand (s (78 + o) k) (ixor kn (-1)) = 0)) → ∃ s' kn' l', Ze d 93 71 [aR (58 + o), aI kn, aI r, aI k] [] s = Ze d 93 71 [aR (58 + o), aI kn', aI r, aI sg.length] [] s' ∧ OM s' o l' ∧ OL sg lo l' ∧ KN kn' sg l' ∧ (∃ t, l' = l ++ t) ∧ (∀ g, k ≤ g → g < sg.length → rdy sg lo l g → g ∈ l') ∧ Fr (FOF o) s s' := by
      intro h1 h2
      rw [fo_no (d := d) (r := r) ho hS.1 hkl hL h2]
      obtain ⟨s', kn', l', a1, a2, a3, a4, a5, a6, a7⟩ := ih (k + 1) s kn l (by omega) hS hN hO hl ⟨kv, k1, k2, k3⟩
      refine ⟨s', kn', l', a1, a2, a3, a4, a5, fun g g1 g2 g3 => ?_, a7⟩
      by_cases hgk : g = k
      · rw [hgk] at g3; exact absurd g3 h1
      · exact a6 g (by omega) g2 g3
    generalize sg[k] = x at hx n1 n2 hbx hAx
    by_cases hb : kv.testBit k = true
    · rw [hb] at hbit
      refine skip (fun z => ?_) (Or.inl (by rw [k1]; exact hbit))
      rcases hk3.mp hb with y | y
      · exact z.1 y
      · exact z.2.1 y
    · have hb' : kv.testBit k = false := by simpa using hb
      rw [hb'] at hbit
      have hnb : ¬ basg sg k := fun z => hb (hk3.mpr (Or.inl z))
      have hnl : k ∉ l := fun z => hb (hk3.mpr (Or.inr z))
      have hs : isSk x.1 x.2.2.1 ∨ x.1 = 4 := Classical.byContradiction fun z => hnb (hbx.mpr (Or.inr ⟨fun y => z (Or.inr y), fun y => z (Or.inl y)⟩))
      obtain ⟨nv, v1, v2, v3⟩ := BU_BT (hAx hs) (n1 hs)
      have hsub := q_sub v2 k2
      rw [← v1, ← k1] at hsub
      have hocc : ∀ h, dpd sg lo k h ↔ occ h (form sg lo k) := fun h => ⟨fun ⟨_, _, _, z⟩ => z, fun z => ⟨x, hx, hs, z⟩⟩
      by_cases hz : iand (s (78 + o) k) (ixor kn (-1)) = 0
      · have hd' : ∀ h, h < 24 → dpd sg lo k h → basg sg h ∨ h ∈ l := fun h hh hdp => (k3 h hh).mp (hsub.mp hz h hh ((v3 h hh).mpr ((hocc h).mp hdp)))
        have hbig : ∀ h, dpd sg lo k h → h < 24 := fun h hh => by have := hD k h hh; omega
        have hl' := OL_push hl hkl hnb hnl (fun q hq => hd' q (hbig q hq) hq)
        have hlt := OL_lt hl hkl hnl
        rw [fo_yes (d := d) (r := r) ho hS.1 hkl hL (by rw [k1]; exact hbit) hz hO.1 (by omega)]
        have F : Fr (FOF o) s (mu (mu s (79 + o) l.length k) (58 + o) 10 ((l.length + 1 : Nat) : Int)) := ((Fr.rf s).mu (Or.inl rfl)).mu (Or.inr ⟨rfl, rfl⟩)
        have hO' : OM (mu (mu s (79 + o) l.length k) (58 + o) 10 ((l.length + 1 : Nat) : Int)) o (l ++ [k]) := by
          refine ⟨by rw [mu_s, List.length_append]; rfl, fun i y hy => ?_⟩
          rw [mu_c (by omega)]
          by_cases hi : i < l.length
          · rw [List.getElem?_append_left hi] at hy
            rw [mu_i (by omega)]
            exact hO.2 i y hy
          · have hil := (List.getElem?_eq_some_iff.mp hy).1
            rw [List.length_append] at hil
            have hi' : i = l.length := by simp at hil; omega
            subst hi'
            rw [List.getElem?_append_right (Nat.le_refl _)] at hy
            have : y = k := by simpa using hy.symm
            rw [mu_s, this]
        obtain ⟨s', kn', l', a1, a2, a3, a4, ⟨t, a5⟩, a6, a7⟩ := ih (k + 1) _ (ior kn (ishl 1 k)) (l ++ [k]) (by omega) (SGA_put hS (F _ _ (by unfold FOF; omega)) (fun j => ⟨F _ _ (by unfold FOF; omega), F _ _ (by unfold FOF; omega)⟩)) (ND_put hN (fun j => F _ _ (by unfold FOF; omega))) hO' hl' (BT_iff (BT_or ⟨kv, k1, k2, k3⟩ (BT_one (show k < 24 by omega))) (fun h _ => by rw [List.mem_append, List.mem_singleton, or_assoc]))
        refine ⟨s', kn', l', a1, a2, a3, a4, ⟨[k] ++ t, by rw [a5, List.append_assoc]⟩, fun g g1 g2 g3 => ?_, F.tr a7⟩
        by_cases hgk : g = k
        · rw [a5, hgk]; simp
        · by_cases hgl : g ∈ l ++ [k]
          · rw [a5]; exact List.mem_append_left _ hgl
          · exact a6 g (by omega) g2 ⟨g3.1, hgl, fun h hh => (g3.2.2 h hh).imp id (fun z => List.mem_append_left _ z)⟩
      · refine skip (fun z => hz (hsub.mpr (fun h hh hn => (k3 h hh).mpr (z.2.2 h ((hocc h).mpr ((v3 h hh).mp hn)))))) (Or.inr ⟨by rw [k1]; exact hbit, hz⟩)
theorem ff_r {d o : Nat} {sg : List Sg} {lo : List Lo} (ho : o = 0 ∨ o = 26) (hA : AIN sg lo) (hD : ∀ g h, dpd sg lo g h → h < sg.length) (hc : ∀ g, g < sg.length → ¬ cyc (dpd sg lo) (rgs sg) g) : ∀ (m r : Nat) (s : Mem) (kn : Int) (l : List Nat) (l3 : AV), r + m = sg.length → SGA s o sg → ND s o sg lo → OM s o l → OL sg lo l → KN kn sg l → ((∀ g, g < sg.length → basg sg g ∨ g ∈ l) ∨ r ≤ l.length) → ∃ s' l', Ze d 93 58 [aR (58 + o), aI kn, aI r, l3] [] s = rV s' ∧ OM s' o l' ∧ OL sg lo l' ∧ (∀ g, g < sg.length → basg sg g ∨ g ∈ l') ∧ Fr (FOF o) s s' := by
  intro m
  induction m with
  | zero =>
    intro r s kn l l3 hr hS hN hO hl hK hp
    have : r = sg.length := by omega
    subst this
    refine ⟨s, l, fo_r_end ho hS.1, hO, hl, fun g hg => ?_, Fr.rf s⟩
    rcases hp with z | z
    · exact z g hg
    · exact Classical.byContradiction fun y => by
        have := OL_lt hl hg (fun z => y (Or.inr z))
        omega
  | succ m ih =>
    intro r s kn l l3 hr hS hN hO hl hK hp
    have hrl : r < sg.length := by omega
    rw [fo_r (d := d) (l3 := l3) ho hS.1 hrl]
    obtain ⟨s1, kn1, l1, a1, a2, a3, a4, ⟨t, a5⟩, a6, a7⟩ := ff_k (d := d) (r := r) ho hA hD sg.length 0 s kn l (Nat.zero_add _) hS hN hO hl hK
    have S1 : SGA s1 o sg := SGA_put hS (a7 _ _ (by unfold FOF; omega)) (fun j => ⟨a7 _ _ (by unfold FOF; omega), a7 _ _ (by unfold FOF; omega)⟩)
    rw [a1, fo_k_end (d := d) ho S1.1 hrl hS.2.1]
    obtain ⟨s2, l2, b1, b2, b3, b4, b5⟩ := ih (r + 1) s1 kn1 l1 (aI sg.length) (by omega) S1 (ND_put hN (fun j => a7 _ _ (by unfold FOF; omega))) a2 a3 a4 (by
      rcases hp with z | z
      · exact Or.inl (fun g hg => (z g hg).imp id (fun y => by rw [a5]; exact List.mem_append_left _ y))
      · by_cases hall : ∀ g, g < sg.length → basg sg g ∨ g ∈ l
        · exact Or.inl (fun g hg => (hall g hg).imp id (fun y => by rw [a5]; exact List.mem_append_left _ y))
        · right
          have hex : ∃ g, g < sg.length ∧ rdy sg lo l g := Classical.byContradiction fun hno => hall (acyc (D := dpd sg lo) (rg := rgs sg) (K := fun g => basg sg g ∨ g ∈ l) hS.2.1 (fun g h hh => ⟨(List.getElem?_eq_some_iff.mp hh.choose_spec.1).1, hD g h hh⟩) hc (fun g hg hk hrg => by
              obtain ⟨x, hx, h3⟩ := hrg
              exact hk (Or.inl ⟨x, hx, Or.inl h3⟩)) (fun g hg hk => Classical.byContradiction fun hno2 => hno ⟨g, hg, fun z => hk (Or.inl z), fun z => hk (Or.inr z), fun h hh => Classical.byContradiction fun z => hno2 ⟨h, hh, z⟩⟩))
          obtain ⟨g, hg, hrd⟩ := hex
          have hin := a6 g (Nat.zero_le _) hg hrd
          have : t ≠ [] := fun z => by
            rw [a5, z, List.append_nil] at hin
            exact hrd.2.1 hin
          have : 1 ≤ t.length := List.length_pos_iff.mpr this
          rw [a5, List.length_append]
          omega)
    exact ⟨s2, l2, b1, b2, b3, b4, a7.tr b5⟩
theorem k_findOrder {d o : Nat} {sg : List Sg} {lo : List Lo} {s : Mem} (hd : 2 ≤ d) (ho : o = 0 ∨ o = 26) (hS : SGA s o sg) (hN : ND s o sg lo) (hA : AIN sg lo) (hD : ∀ g h, dpd sg lo g h → h < sg.length) (hc : ∀ g, g < sg.length → ¬ cyc (dpd sg lo) (rgs sg) g) : ∃ s' l, Zc d 93 [aR (58 + o)] s = rV s' ∧ OM s' o l ∧ OL sg lo l ∧ (∀ g, g < sg.length → basg sg g ∨ g ∈ l) ∧ Fr (FOF o) s s' := by
  obtain ⟨d, rfl⟩ : ∃ e, d = e + 1 := ⟨d - 1, by omega⟩
  rw [fo_start]
  obtain ⟨kn, l3, a1, a2⟩ := ff_a (d := d) (by omega) ho hS sg.length 0 0 (Nat.zero_add _) (BT_iff BT_0 (fun h _ => ⟨fun z => z.elim, fun z => by omega⟩))
  rw [a1]
  have F : Fr (FOF o) s (mu s (58 + o) 10 ((0 : Nat) : Int)) := (Fr.rf s).mu (Or.inr ⟨rfl, rfl⟩)
  obtain ⟨s', l, b1, b2, b3, b4, b5⟩ := ff_r (d := d) ho hA hD hc sg.length 0 _ kn [] l3 (Nat.zero_add _) (SGA_put hS (F _ _ (by unfold FOF; omega)) (fun j => ⟨F _ _ (by unfold FOF; omega), F _ _ (by unfold FOF; omega)⟩)) (ND_put hN (fun j => F _ _ (by unfold FOF; omega))) ⟨mu_s, fun i x hx => by simp at hx⟩ ⟨List.nodup_nil, fun i x hx => by simp at hx⟩ a2 (Or.inr (Nat.zero_le _))
  exact ⟨s', l, b1, b2, b3, b4, F.tr b5⟩
