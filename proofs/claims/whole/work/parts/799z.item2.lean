theorem NXF_PC {o K N P M C : Nat} {s s' : Mem} (h : Fr (fun k j => NX k j ∨ NF k j) s s') : Fr (PCX o K N P M C) s s' := h.mono (fun _ _ h => h.elim (fun h => PC_X (NX_PC h)) NF_PC)
theorem NX_CN {s s' : Mem} {o K N P M C : Nat} (ho : o = 0 ∨ o = 26) (h : Fr NX s s') (c : CN s o K N P M C) : CN s' o K N P M C := by
  obtain ⟨-, n2⟩ := NX_at h
  obtain ⟨c1, c2, c3, c4, c5⟩ := c
  exact ⟨by rw [n2 _ _ (by decide), c1], by rw [n2 _ _ (by omega), c2], by rw [n2 _ _ (by decide), c3], by rw [n2 _ _ (by decide), c4], by rw [n2 _ _ (by decide), c5]⟩
theorem k_type3 {u o k M C : Nat} {T : Tx} {d : Nat} {s : Mem} (hd : 11 ≤ d) (h : KS s T u o k) (hM : s 114 4 = M) (hMk : M ≤ k + 1) (hC : s 114 10 = C) (hCk : C ≤ k) : YO T u o k M C s (Zc d 130 [aR 131, aI 1] s) (pTy T 3 (tP T k)) := k_type 3 d (Nat.le_refl _) (by omega) k M C s h hM hMk hC hCk
theorem k_expr6 {u o k N P : Nat} {T : Tx} {d : Nat} {s : Mem} (hd : 14 ≤ d) (h : KS s T u o k) (hpu : s 124 6 = P) (hPk : P ≤ k) (hus : s (66 + o) 7 = N) (hNk : N ≤ 25 + k) : XO T u o k N P s (Zc d 135 [aR 131, aI 1] s) (pEx T 6 (tP T k)) := k_expr 6 d (Nat.le_refl _) (by omega) k N P s h hpu hPk hus hNk
theorem kLt_itK {c : Int} (hc : c = 73 ∨ c = 79 ∨ c = 87 ∨ c = 82) : kLt (itK c) = c ∧ itK c < 4 := by
  rcases hc with rfl | rfl | rfl | rfl <;> decide
theorem sAdd_CN {s : Mem} {o K N P M C : Nat} {a b c e : Int} (ho : o = 0 ∨ o = 26) (h : CN s o K N P M C) : CN (sAdd s K a b c e) o (K + 1) N P M C := by
  obtain ⟨a1, a2, a3, a4, a5, a6⟩ := sAdd_at (s := s) (K := K) (a := a) (b := b) (c := c) (e := e)
  obtain ⟨c1, c2, c3, c4, c5⟩ := h
  exact ⟨a5, by rw [a6 _ _ (by omega), c2], by rw [a6 _ _ (by omega), c3], by rw [a6 _ _ (by omega), c4], by rw [a6 _ _ (by omega), c5]⟩
theorem sAdd_AC {s : Mem} {o K P a b : Nat} {x y c e : Int} (ho : o = 0 ∨ o = 26) : AC o P s (sAdd s K x y c e) a b := by
  obtain ⟨a1, a2, a3, a4, a5, a6⟩ := sAdd_at (s := s) (K := K) (a := x) (b := y) (c := c) (e := e)
  exact ⟨fun k j hk _ _ => a6 _ _ (by omega), fun j _ => a6 _ _ (by omega)⟩
theorem k_decl {d k u o K N P M C : Nat} {T : Tx} {s : Mem} {c : Int} (hd : 11 ≤ d) (h : KS s T u o k) (hc : c = 73 ∨ c = 79 ∨ c = 87 ∨ c = 82) (hcc : cA T (tP T k) = c) (hdp : ¬ 0 < s 131 6) (hcn : CN s o K N P M C) (hK : K ≤ k) (hM : M ≤ k + 1) (hC : C ≤ k) :
    IO T u o k K N P M C s (Zc (d + 1) 125 [aR 131] s) (pItem T (tP T k)) := by
  have ho : o = 0 ∨ o = 26 := h.2.2.2.2.2.2
  have hk : s 111 k = c := (KS_ch h (by omega)).mpr hcc
  have hlt := KS_lt h (by omega)
  have hp1 : tP T (k + 1) = sk T (tP T k + 1) := tP_one ⟨by omega, by omega⟩
  rw [pItem_h, if_neg (by omega)]
  have hh := pIH_k (d := d) (c := 58) (by omega) h hlt hp1 (by decide)
  cases hq : pIH T 58 (tP T k) with
  | error f =>
    rw [hq] at hh
    rw [bd_er]
    rcases hh with ⟨s1, e1, e2, e3⟩ | ⟨s1, s2, n, e1, e2, e3, e4⟩
    · exact ⟨s1, dc_F (s1 := s) (s2 := s) (s3 := s) (n := 0) (t := 0) (by omega) h hk hdp (Or.inl e1), e2, NXF_PC e3⟩
    · exact ⟨s2, dc_F (s2 := s) (s3 := s) (t := 0) (by omega) h hk hdp (Or.inr (Or.inl ⟨e1, e2⟩)), e3, NXF_PC e4⟩
  | ok nq =>
    obtain ⟨n, q⟩ := nq
    rw [hq] at hh
    obtain ⟨s1, s2, e1, e2, e3, e4, e5, e6⟩ := hh
    rw [bd_ok, ← e5]
    have hle := KS_le e4
    have cn2 := NX_CN ho e6 hcn
    have hy := k_type3 (d := d) hd e4 cn2.2.2.2.1 (by omega) cn2.2.2.2.2 (by omega)
    have F2 : Fr (PC o K N P M C) s s2 := e6.mono (fun _ _ h => NX_PC h)
    cases hx : pTy T 3 (tP T (k + 3)) with
    | error f =>
      rw [hx] at hy
      rw [bd_er]
      rcases hy with ⟨s3, g1, g2, g3⟩ | ⟨s3, k3, v, C', g1, g2, g3, g4, g5, g6, g7, g8, g9⟩
      · exact ⟨s3, dc_F (s3 := s) (t := 0) (by omega) h hk hdp (Or.inr (Or.inr (Or.inl ⟨e1, e2, g1⟩))), g2, (F2.mono (fun _ _ h => PC_X h)).tr (g3.mono (fun _ _ h => YFX_PC h))⟩
      · subst g3
        have := kt_takeE (d := d) (c := 59) (by omega) g2 (by decide) (by omega)
        exact ⟨_, dc_F (by omega) h hk hdp (Or.inr (Or.inr (Or.inr ⟨e1, e2, g1, this⟩))), by rw [mu_s], ((F2.tr (g9.mono (fun _ _ h => YF_PC h))).mono (fun _ _ h => PC_X h)).mu (Or.inr ⟨rfl, rfl⟩)⟩
    | ok tq =>
      obtain ⟨t, q⟩ := tq
      rw [hx] at hy
      obtain ⟨s3, k3, tn, M', C', g1, g2, g3, g4, g5, g6, g7, ⟨g8, g8'⟩, g9, g10, g11⟩ := hy
      rw [bd_ok]
      subst g3
      have F3 : Fr (PC o K N P M C) s s3 := F2.tr (g11.mono (fun _ _ h => YF_PC h))
      unfold pTk
      by_cases h59 : cA T (tP T k3) = 59
      · rw [if_pos h59, bd_ok]
        obtain ⟨s4, i1, i2, i3, i4⟩ := kt_take (d := d) (by omega) g2 (by decide) h59
        have hle4 := KS_le i2
        have cn4 : CN s4 o K N P M' C' := NX_CN ho i4 ⟨by rw [g11 _ _ (by unfold YF; omega)]; exact cn2.1, by rw [g11 _ _ (by unfold YF; omega)]; exact cn2.2.1, by rw [g11 _ _ (by unfold YF; omega)]; exact cn2.2.2.1, g6, g7⟩
        have hz := dc_ok (by omega) h hk hdp e1 e2 g1 i1 cn4.1 (by omega)
        obtain ⟨a1, a2, a3, a4, a5, a6⟩ := sAdd_at (s := s4) (K := K) (a := c) (b := tP T k) (c := n) (e := tn)
        have F4 : Fr (PC o K N P M C) s s4 := F3.tr (i4.mono (fun _ _ h => NX_PC h))
        have hl := kLt_itK hc
        refine ⟨_, k3 + 1, P, M', C', hz, KS_P i2 ((sAdd_fr (o := o) (N := N) (P := P) (M := M) (C := C) (Nat.le_refl K)).mono (fun _ _ h => PC_X h)) (by rw [a6 _ _ (by omega)]; exact i2.2.2.2.1) hle4.2.2, i3, by omega, ⟨a2, Or.inr (Or.inr (Or.inr (Or.inr (Or.inl ⟨rfl, ?_, ?_, a3, e3, tn, a4, ?_⟩))))⟩, sAdd_CN ho cn4, ⟨Nat.le_refl _, g8, g8'⟩, ⟨by show 0 + k ≤ _; omega, by omega, by omega, by omega⟩, F4.tr (sAdd_fr (Nat.le_refl _))⟩
        · rw [a1]
          show c = kLt (itK (cA T (tP T k)))
          rw [hcc, hl.1]
        · show itK (cA T (tP T k)) < 4
          rw [hcc]
          exact hl.2
        · exact CT_wide (CT_put (CT_put g5 (NX_AY i4)) (fun k j hk => a6 _ _ (by omega))) (Nat.le_refl _) (Nat.zero_le _) (Nat.le_refl _)
      · rw [if_neg h59, bd_er]
        obtain ⟨s4, i1, i2, i3⟩ := kt_takeF (d := d) (by omega) g2 (by decide) h59
        exact IO_er F3 i3 (dc_F (by omega) h hk hdp (Or.inr (Or.inr (Or.inr ⟨e1, e2, g1, i1⟩)))) i2
theorem k_node {d k u o K N P M C : Nat} {T : Tx} {s : Mem} (hd : 14 ≤ d) (h : KS s T u o k) (hcc : cA T (tP T k) = 78) (hdp : ¬ 0 < s 131 6) (hcn : CN s o K N P M C) (hK : K ≤ k) (hN : N ≤ 25 + k) (hP : P ≤ k) :
    IO T u o k K N P M C s (Zc (d + 1) 126 [aR 131] s) (pItem T (tP T k)) := by
  have ho : o = 0 ∨ o = 26 := h.2.2.2.2.2.2
  have hlt := KS_lt h (by omega)
  have hp1 : tP T (k + 1) = sk T (tP T k + 1) := tP_one ⟨by omega, by omega⟩
  rw [pItem_h, if_pos hcc]
  have hh := pIH_k (d := d) (c := 61) (by omega) h hlt hp1 (by decide)
  cases hq : pIH T 61 (tP T k) with
  | error f =>
    rw [hq] at hh
    rw [bd_er]
    rcases hh with ⟨s1, e1, e2, e3⟩ | ⟨s1, s2, n, e1, e2, e3, e4⟩
    · exact ⟨s1, nd_F (s1 := s) (s2 := s) (s3 := s) (n := 0) (t := 0) h hdp (Or.inl e1), e2, NXF_PC e3⟩
    · exact ⟨s2, nd_F (s2 := s) (s3 := s) (t := 0) h hdp (Or.inr (Or.inl ⟨e1, e2⟩)), e3, NXF_PC e4⟩
  | ok nq =>
    obtain ⟨n, q⟩ := nq
    rw [hq] at hh
    obtain ⟨s1, s2, e1, e2, e3, e4, e5, e6⟩ := hh
    rw [bd_ok, ← e5]
    have hle := KS_le e4
    have cn2 := NX_CN ho e6 hcn
    have hy := k_expr6 (d := d) hd e4 cn2.2.2.1 (by omega) cn2.2.1 (by omega)
    have F2 : Fr (PC o K N P M C) s s2 := e6.mono (fun _ _ h => NX_PC h)
    cases hx : pEx T 6 (tP T (k + 3)) with
    | error f =>
      rw [hx] at hy
      rw [bd_er]
      rcases hy with ⟨s3, g1, g2, g3⟩ | ⟨s3, k3, v, g1, g2, g3, g4, g5⟩
      · exact ⟨s3, nd_F (s3 := s) (t := 0) h hdp (Or.inr (Or.inr (Or.inl ⟨e1, e2, g1⟩))), g2, (F2.mono (fun _ _ h => PC_X h)).tr (g3.mono (fun _ _ h => XFX_PC h))⟩
      · subst g3
        have := kt_takeE (d := d) (c := 59) (by omega) g2 (by decide) (by omega)
        exact ⟨_, nd_F h hdp (Or.inr (Or.inr (Or.inr ⟨e1, e2, g1, this⟩))), by rw [mu_s], ((F2.tr (g5.mono (fun _ _ h => XF_PC h))).mono (fun _ _ h => PC_X h)).mu (Or.inr ⟨rfl, rfl⟩)⟩
    | ok tq =>
      obtain ⟨e, q⟩ := tq
      rw [hx] at hy
      obtain ⟨s3, k3, P', g1, g2, g3, g4, g5, g6, g7, g8, g9, g10⟩ := hy
      rw [bd_ok]
      subst g3
      have F3 : Fr (PC o K N P M C) s s3 := F2.tr (g10.mono (fun _ _ h => XF_PC h))
      unfold pTk
      by_cases h59 : cA T (tP T k3) = 59
      · rw [if_pos h59, bd_ok]
        obtain ⟨s4, i1, i2, i3, i4⟩ := kt_take (d := d) (by omega) g2 (by decide) h59
        have hle4 := KS_le i2
        have cn4 : CN s4 o K (N + esz e) P' M C := NX_CN ho i4 ⟨by rw [g10 _ _ (by unfold XF; omega)]; exact cn2.1, g8, g7, by rw [g10 _ _ (by unfold XF; omega)]; exact cn2.2.2.2.1, by rw [g10 _ _ (by unfold XF; omega)]; exact cn2.2.2.2.2⟩
        have hz := nd_ok (by omega) h hdp e1 e2 g1 i1 cn4.1 (by omega)
        obtain ⟨a1, a2, a3, a4, a5, a6⟩ := sAdd_at (s := s4) (K := K) (a := 78) (b := tP T k) (c := n) (e := ((N + esz e - 1 : Nat) : Int))
        have F4 : Fr (PC o K N P M C) s s4 := F3.tr (i4.mono (fun _ _ h => NX_PC h))
        have := esz_pos e
        refine ⟨_, k3 + 1, P', M, C, hz, KS_P i2 ((sAdd_fr (o := o) (N := N) (P := P) (M := M) (C := C) (Nat.le_refl K)).mono (fun _ _ h => PC_X h)) (by rw [a6 _ _ (by omega)]; exact i2.2.2.2.1) hle4.2.2, i3, by omega, ⟨a2, Or.inr (Or.inr (Or.inr (Or.inr (Or.inr ⟨rfl, a1, rfl, a3, e3, a4, ?_⟩))))⟩, sAdd_CN ho cn4, ⟨g6, Nat.le_refl _, Nat.le_refl _⟩, ⟨by show esz e + k ≤ _; omega, by omega, by omega, by omega⟩, F4.tr (sAdd_fr (Nat.le_refl _))⟩
        exact CE_put g9 ⟨fun k j hk _ _ => by rw [a6 _ _ (by omega), (NX_at i4).2 _ _ (by omega)], fun j _ => by rw [a6 _ _ (by omega), (NX_at i4).2 _ _ (by omega)]⟩
      · rw [if_neg h59, bd_er]
        obtain ⟨s4, i1, i2, i3⟩ := kt_takeF (d := d) (by omega) g2 (by decide) h59
        exact IO_er F3 i3 (nd_F h hdp (Or.inr (Or.inr (Or.inr ⟨e1, e2, g1, i1⟩)))) i2
theorem k_conn {d k u o K N P M C : Nat} {T : Tx} {s : Mem} (hd : 14 ≤ d) (h : KS s T u o k) (hcn : CN s o K N P M C) (hK : K ≤ k) (hN : N ≤ 25 + k) (hP : P ≤ k) :
    IO T u o k K N P M C s (Zc (d + 1) 127 [aR 131] s) (pConn T (tP T k)) := by
  have ho : o = 0 ∨ o = 26 := h.2.2.2.2.2.2
  unfold pConn
  have hr := k_reference (d := d) (by omega) h hcn.2.2.1 hP hcn.2.1 (by omega)
  have hlx : ∀ {l : Jvm.Term} {q : Nat}, pRf T (tP T k) = .ok (l, q) → ∃ (x : Nat) (r : Jvm.Term), l = eRef x r := by
    intro l q e
    unfold pRf pNm at e
    split at e
    · rw [bd_ok] at e
      cases hp : pPath T 6 (sk T (tP T k + 1)) with
      | error f => rw [hp, bd_er] at e; cases e
      | ok rq =>
        obtain ⟨r, q'⟩ := rq
        rw [hp, bd_ok] at e
        injection e with e
        injection e with e1 e2
        exact ⟨_, _, e1.symm⟩
    · rw [bd_er] at e
      cases e
  cases hq : pRf T (tP T k) with
  | error f =>
    rw [hq] at hr
    rw [bd_er]
    rcases hr with ⟨s1, e1, e2, e3⟩ | ⟨s1, k1, v, e1, e2, e3, e4, e5⟩
    · exact ⟨s1, cn_F (s1 := s) (s2 := s) (s3 := s) (n := 0) (t := 0) h (Or.inl e1), e2, e3.mono (fun _ _ h => XFX_PC h)⟩
    · subst e3
      obtain ⟨s2, g1, g2, g3⟩ := kt_arrF (d := d) (by omega) e2 (by omega)
      exact IO_er (e5.mono (fun _ _ h => XF_PC h)) g3 (cn_F (s2 := s) (s3 := s) (t := 0) h (Or.inr (Or.inl ⟨e1, g1⟩))) g2
  | ok lq =>
    obtain ⟨l, q⟩ := lq
    obtain ⟨x, r, rfl⟩ := hlx hq
    rw [hq] at hr
    obtain ⟨s1, k1, P1, e1, e2, e3, e4, e5, e6, e7, e8, e9, e10⟩ := hr
    rw [bd_ok]
    subst e3
    have z1 : esz (eRef x r) = 1 := rfl
    rw [z1] at e1 e4 e8
    have F1 : Fr (PC o K N P M C) s s1 := e10.mono (fun _ _ h => XF_PC h)
    unfold pAr
    by_cases har : cA T (tP T k1) = 60 ∧ cA T (tP T k1 + 1) = 61
    · rw [if_pos har, bd_ok]
      obtain ⟨s2, g1, g2, g3, g4⟩ := kt_arr (d := d) (by omega) e2 har
      rw [← g3]
      have F2 : Fr (PC o K N P M C) s s2 := F1.tr (g4.mono (fun _ _ h => NX_PC h))
      have cn1 : CN s1 o K (N + 1) P1 M C := ⟨by rw [e10 _ _ (by unfold XF; omega)]; exact hcn.1, e8, e7, by rw [e10 _ _ (by unfold XF; omega)]; exact hcn.2.2.2.1, by rw [e10 _ _ (by unfold XF; omega)]; exact hcn.2.2.2.2⟩
      have cn2 := NX_CN ho g4 cn1
      have hy := k_expr6 (d := d) hd g2 cn2.2.2.1 (by omega) cn2.2.1 (by omega)
      cases hx : pEx T 6 (tP T (k1 + 1)) with
      | error f =>
        rw [hx] at hy
        rw [bd_er]
        rcases hy with ⟨s3, i1, i2, i3⟩ | ⟨s3, k3, v, i1, i2, i3, i4, i5⟩
        · exact ⟨s3, cn_F (s3 := s) (t := 0) h (Or.inr (Or.inr (Or.inl ⟨e1, g1, i1⟩))), i2, (F2.mono (fun _ _ h => PC_X h)).tr (i3.mono (fun _ _ h => XFX_PC (XFX_le (by omega) e6 h)))⟩
        · subst i3
          have := kt_takeE (d := d) (c := 59) (by omega) i2 (by decide) (by omega)
          exact ⟨_, cn_F h (Or.inr (Or.inr (Or.inr ⟨e1, g1, i1, this⟩))), by rw [mu_s], ((F2.tr (i5.mono (fun _ _ h => XF_PC (XF_le (by omega) e6 h)))).mono (fun _ _ h => PC_X h)).mu (Or.inr ⟨rfl, rfl⟩)⟩
      | ok tq =>
        obtain ⟨e, q⟩ := tq
        rw [hx] at hy
        obtain ⟨s3, k3, P', i1, i2, i3, i4, i5, i6, i7, i8, i9, i10⟩ := hy
        rw [bd_ok]
        subst i3
        have F3 : Fr (PC o K N P M C) s s3 := F2.tr (i10.mono (fun _ _ h => XF_PC (XF_le (by omega) e6 h)))
        unfold pTk
        by_cases h59 : cA T (tP T k3) = 59
        · rw [if_pos h59, bd_ok]
          obtain ⟨s4, j1, j2, j3, j4⟩ := kt_take (d := d) (by omega) i2 (by decide) h59
          have hle4 := KS_le j2
          have cn4 : CN s4 o K (N + 1 + esz e) P' M C := NX_CN ho j4 ⟨by rw [i10 _ _ (by unfold XF; omega)]; exact cn2.1, i8, i7, by rw [i10 _ _ (by unfold XF; omega)]; exact cn2.2.2.2.1, by rw [i10 _ _ (by unfold XF; omega)]; exact cn2.2.2.2.2⟩
          have hz := cn_ok (by omega) h e1 g1 i1 j1 cn4.1 (by omega)
          obtain ⟨a1, a2, a3, a4, a5, a6⟩ := sAdd_at (s := s4) (K := K) (a := 3) (b := tP T k) (c := ((N + 1 - 1 : Nat) : Int)) (e := ((N + 1 + esz e - 1 : Nat) : Int))
          have F4 : Fr (PC o K N P M C) s s4 := F3.tr (j4.mono (fun _ _ h => NX_PC h))
          have := esz_pos e
          have AA : AC o P1 s1 s4 N (N + 1) := ⟨fun k j hk h1 h2 => by rw [(NX_at j4).2 _ _ (by omega), i10 _ _ (by unfold XF; omega), (NX_at g4).2 _ _ (by omega)], fun j hj => by rw [(NX_at j4).2 _ _ (by omega), i10 _ _ (by unfold XF; omega), (NX_at g4).2 _ _ (by omega)]⟩
          refine ⟨_, k3 + 1, P', M, C, hz, KS_P j2 ((sAdd_fr (o := o) (N := N) (P := P) (M := M) (C := C) (Nat.le_refl K)).mono (fun _ _ h => PC_X h)) (by rw [a6 _ _ (by omega)]; exact j2.2.2.2.1) hle4.2.2, j3, by omega, ⟨a2, Or.inl ⟨rfl, a1, by rw [a3]; rfl, ?_, ⟨x, r, rfl⟩, ?_, ?_⟩⟩, ?_, ⟨by omega, Nat.le_refl _, Nat.le_refl _⟩, ⟨by show 1 + esz e + k ≤ _; omega, by omega, by omega, by omega⟩, F4.tr (sAdd_fr (Nat.le_refl _))⟩
          · rw [a4]
            show ((N + 1 + esz e - 1 : Nat) : Int) = ((N + esz e : Nat) : Int)
            omega
          · exact CE_put (CE_P i6 (CE_put e9 AA)) (sAdd_AC ho)
          · exact CE_put (CE_put i9 ⟨fun k j hk _ _ => (NX_at j4).2 _ _ (by omega), fun j _ => (NX_at j4).2 _ _ (by omega)⟩) (sAdd_AC ho)
          · show CN _ o (K + 1) (N + (1 + esz e)) P' M C
            rw [← Nat.add_assoc N 1]
            exact sAdd_CN ho cn4
        · rw [if_neg h59, bd_er]
          obtain ⟨s4, j1, j2, j3⟩ := kt_takeF (d := d) (by omega) i2 (by decide) h59
          exact IO_er F3 j3 (cn_F h (Or.inr (Or.inr (Or.inr ⟨e1, g1, i1, j1⟩)))) j2
    · rw [if_neg har, bd_er]
      obtain ⟨s2, g1, g2, g3⟩ := kt_arrF (d := d) (by omega) e2 har
      exact IO_er F1 g3 (cn_F (s2 := s) (s3 := s) (t := 0) h (Or.inr (Or.inl ⟨e1, g1⟩))) g2
