/-! THE CLASS: a step that connects -/
theorem L_pair {o N L K e g v : Nat} {ex : Jvm.Term} {now : Nat → Jvm.Term} {stk : Nat → List Fm} {gf : List Bool} {s : Mem} (ho : o = 0 ∨ o = 26) (hN : N ≤ 225) (hL : L ≤ 24) (hg : g < 24) (hv : SRCc s o N L ex v) (h : LGS s o N L K e now stk gf) :
    ∃ t : Nat, s 137 10 = t ∧ LGS (mu (mu s 139 g v) 137 10 (ior t (ishl 1 g))) o N L K e (fun q => if g = q then ex else now q) (fun q => if g = q then (stk q).map fmT else stk q) (List.replicate e true) ∧ Fr (LWF o) s (mu (mu s 139 g v) 137 10 (ior t (ishl 1 g))) ∧ KP o K s (mu (mu s 139 g v) 137 10 (ior t (ishl 1 g))) := by
  obtain ⟨h1, h2, h3, h4, h5, ⟨t, h6, h6'⟩, h7, h8, h9⟩ := h
  refine ⟨t, h6, ?_⟩
  obtain ⟨u, u1, u2, u3⟩ := BT_or (P := fun h => t.testBit h = true) ⟨t, rfl, h6', fun _ _ => Iff.rfl⟩ (BT_one hg)
  rw [u1]
  have a1 : ∀ k j, k ≠ 137 → k ≠ 139 → mu (mu s 139 g v) 137 10 (u : Nat) k j = s k j := fun k j b1 b2 => by rw [mu_c b1, mu_c b2]
  have a2 : mu (mu s 139 g v) 137 10 (u : Nat) 137 9 = s 137 9 := by rw [mu_i (by decide), mu_c (by decide)]
  have a3 : mu (mu s 139 g v) 137 10 (u : Nat) 137 10 = u := mu_s
  have a4 : mu (mu s 139 g v) 137 10 (u : Nat) 139 g = v := by rw [mu_c (by decide), mu_s]
  have a5 : ∀ q, q ≠ g → mu (mu s 139 g v) 137 10 (u : Nat) 139 q = s 139 q := fun q hq => by rw [mu_c (by decide), mu_i hq]
  have F : Fr (LWF o) s (mu (mu s 139 g v) 137 10 (u : Nat)) := ((Fr.rf s).mu (Or.inr (Or.inr (Or.inl rfl)))).mu (Or.inl ⟨rfl, Or.inr rfl⟩)
  generalize mu (mu s 139 g v) 137 10 (u : Nat) = s1 at *
  have hA : ∀ a b, AN o s s1 a b := fun a b => LW_AN ho F
  have hcC : ∀ c j, 74 ≤ c → c ≤ 76 → j < K → s1 (c + o) j = s (c + o) j := fun c j h1 h2 _ => a1 _ _ (by omega) (by omega)
  have hn : ∀ j, j < 225 + K → s1 138 j = s 138 j := fun j _ => a1 _ _ (by decide) (by decide)
  refine ⟨⟨by rw [a2, h1], h2, List.length_replicate, by rw [a1 _ _ (by omega) (by omega), h4], h5, ⟨u, a3, u2⟩, fun i hi => by rw [a1 _ _ (by decide) (by decide)]; exact h7 i hi, NS_put ho hN h8 (fun k j hk => a1 _ _ (by omega) (by omega)) (fun j _ => a1 _ _ (by decide) (by decide)), fun q hq => ?_⟩, F, hcC, hn⟩
  obtain ⟨b1, ⟨b2, b3, b4⟩, b5⟩ := h9 q hq
  have hF := FRM_put (s' := s1) hN hL (Nat.le_refl K) (hA _ _) hcC hn (stk q) (fun i hi => ⟨a1 _ _ (by omega) (by omega), a1 _ _ (by omega) (by omega), a1 _ _ (by decide) (by decide)⟩) b3
  by_cases hgq : g = q
  · subst hgq
    simp only [if_pos]
    refine ⟨by rw [List.length_map, b1], ⟨⟨v, a4, CD_src (SRCc_put hv (hA _ _)), ?_⟩, FRM_map _ hF, TFR_map _ _ ?_⟩, GFl_true _ _⟩
    · have hb := SRC_BU hL h8 hv
      have hlt : v < 225 + K := CD_lt hN hL (CD_src (K := K) hv)
      rw [hn v hlt]
      exact hb
    · rw [a3, tb_nat, u3 g hg]
      exact Or.inr rfl
  · simp only [if_neg hgq]
    refine ⟨b1, ⟨by rw [a5 q (fun z => hgq z.symm)]; exact CN1_put hN hL (Nat.le_refl _) b2 (hA _ _) hcC hn, hF, TFR_put (stk q) _ _ (fun i hi => a1 _ _ (by decide) (by decide)) ?_ b4⟩, GFl_true _ _⟩
    rw [a3, h6, tb_nat, tb_nat, u3 q hq]
    constructor
    · exact Or.inl
    · rintro (z | z)
      · exact z
      · exact absurd z.symm hgq
theorem lcn_loop {d o k N L K e : Nat} {lo : List Lo} (hd : 2 ≤ d) (ho : o = 0 ∨ o = 26) (hk : k < 200) (hN : N ≤ 225) (hL : L ≤ 24) : ∀ (m i : Nat) (s : Mem) (l5 : AV) (now : Nat → Jvm.Term) (stk : Nat → List Fm) (gf : List Bool), i + m = lo.length → PRS s o k N L lo → LGS s o N L K e now stk gf →
    ∃ (s' : Mem) (l5' : AV) (now' : Nat → Jvm.Term) (stk' : Nat → List Fm) (gf' : List Bool), Ze d 105 13 [aR 137, aR (58 + o), aI k, aI lo.length, aI i, l5] [] s = Ze d 105 13 [aR 137, aR (58 + o), aI k, aI lo.length, aI lo.length, l5'] [] s' ∧ LGS s' o N L K e now' stk' gf' ∧ (∀ rest g, g < 24 → lwF g (lo.drop i ++ rest) (now g) (stk g) = lwF g rest (now' g) (stk' g)) ∧ (∀ g, g < 24 → bOf (stk' g) = bOf (stk g)) ∧ Fr (LWF o) s s' ∧ KP o K s s' := by
  intro m
  induction m with
  | zero =>
    intro i s l5 now stk gf hi hP h
    have : i = lo.length := by omega
    subst this
    refine ⟨s, l5, now, stk, gf, rfl, h, fun rest g _ => ?_, fun _ _ => rfl, Fr.rf s, KP_rf⟩
    rw [List.drop_of_length_le (Nat.le_refl _), List.nil_append]
  | succ m ih =>
    intro i s l5 now stk gf hi hP h
    have hil : i < lo.length := by omega
    have hx : lo[i]? = some lo[i] := List.getElem?_eq_getElem hil
    have hlen : lo.length ≤ 24 := by
      obtain ⟨a, b, to, q, fl, -, -, -, -, -, -, -, -, -, p10, -⟩ := hP
      omega
    obtain ⟨p1, p2⟩ := PRS_lt hP hx
    have es := k_sinkOf (d := d) hd ho hk hN hL hP hx
    obtain ⟨v, ev, hv⟩ := k_sourceOf (d := d) hd ho hk hN hL hP hx
    obtain ⟨t, t1, t2, t3, t4⟩ := L_pair (v := v) ho hN hL (show lo[i].2.1 < 24 by omega) hv h
    have e0 := cc_one (l5 := l5) (t := t) ho hil hlen es (by omega) ev t1
    have hP1 : PRS (mu (mu s 139 lo[i].2.1 v) 137 10 (ior t (ishl 1 lo[i].2.1))) o k N L lo := PRS_put hP (Nat.le_refl _) (Nat.le_refl _) ⟨t3 _ _ (by unfold LWF; omega), t3 _ _ (by unfold LWF; omega)⟩ (LW_AN ho t3) (fun j _ => t3 _ _ (by unfold LWF; omega)) (fun j => t3 _ _ (by unfold LWF; omega))
    obtain ⟨s', l5', now', stk', gf', r1, r2, r3, r5, r4, r6⟩ := ih (i + 1) _ (aI lo[i].2.1) _ _ _ (by omega) hP1 t2
    refine ⟨s', l5', now', stk', gf', by rw [e0, r1], r2, fun rest g hg => ?_, fun g hg => ?_, t3.tr r4, KP_tr t4 (Nat.le_refl _) r6⟩
    · rw [← r3 rest g hg, List.drop_eq_getElem_cons hil, List.cons_append]
      have hz : lo[i] = (0, lo[i].2.1, lo[i].2.2) := by rw [← p1]
      conv => lhs; rw [hz]
      rw [lwF]
      by_cases hgq : lo[i].2.1 = g
      · simp only [if_pos hgq]
      · simp only [if_neg hgq]
    · rw [r5 g hg]
      by_cases hgq : lo[i].2.1 = g
      · simp only [if_pos hgq]
        unfold bOf
        rw [List.map_map]
        rfl
      · simp only [if_neg hgq]
theorem L_conn {d o k N L K e : Nat} {lo : List Lo} {now : Nat → Jvm.Term} {stk : Nat → List Fm} {gf : List Bool} {s : Mem} (hd : 3 ≤ d) (ho : o = 0 ∨ o = 26) (hk : k < 200) (hN : N ≤ 225) (hL : L ≤ 24) (hP : PRS s o k N L lo) (h : LGS s o N L K e now stk gf) :
    ∃ (s' : Mem) (now' : Nat → Jvm.Term) (stk' : Nat → List Fm) (gf' : List Bool), Zc d 105 [aR 137, aR (58 + o), aI k] s = rV s' ∧ LGS s' o N L K e now' stk' gf' ∧ (∀ rest g, g < 24 → lwF g (lo ++ rest) (now g) (stk g) = lwF g rest (now' g) (stk' g)) ∧ (∀ g, g < 24 → bOf (stk' g) = bOf (stk g)) ∧ Fr (LWF o) s s' ∧ KP o K s s' := by
  obtain ⟨d, rfl⟩ : ∃ e, d = e + 1 := ⟨d - 1, by omega⟩
  obtain ⟨s', l5', now', stk', gf', r1, r2, r3, r5, r4, r6⟩ := lcn_loop (d := d) (by omega) ho hk hN hL lo.length 0 s aU now stk gf (Nat.zero_add _) hP h
  refine ⟨s', now', stk', gf', ?_, r2, fun rest g hg => by rw [← r3 rest g hg, List.drop_zero], r5, r4, r6⟩
  rw [cc_start (k_pairsOf (by omega) ho hk hN hP), r1, cc_end]
