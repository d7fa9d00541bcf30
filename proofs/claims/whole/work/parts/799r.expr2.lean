theorem pEx_0 {T : Tx} {p : Nat} : pEx T 0 p = .error p := by rw [pEx]
theorem k_expr0 {d u o : Nat} {T : Tx} (hd : 1 ≤ d) : KEx (d + 1) 0 T u o := by
  intro k N P s h hpu hPk hus hNk
  rw [pEx_0]
  refine Or.inl ⟨_, ?_, by rw [mu_s], (Fr.rf s).mu (Or.inr ⟨rfl, rfl⟩)⟩
  have z : ((7 : Int) - (0 : Nat)) = 7 := rfl
  rw [z]
  simp (disch := first | exact obC_131 | omega | (simp only [List.length_cons, List.length_nil]; omega)) only [en135, x135_0, x135_1, x135_3, x135_6, x135_7, x135_10, x135_11, x135_12, x135_15, x135_16, x135_19, x135_20, x135_23, x135_24, x135_25, x135_26, x135_28, x135_31, x135_32, x135_33, x135_36, x135_37, x135_38, x135_41, x135_44, x135_45, x135_46, x135_49, x135_50, x135_53, x135_56, x135_57, x135_58, x135_59, x135_62, if_true, if_false, eq_self, Int.reduceEq, Int.reduceLT, Int.reduceLE, Int.reduceAdd, Int.reduceSub, Int.reduceMul, Int.reduceToNat, Nat.reduceAdd, Nat.reduceMul, Nat.reduceEqDiff, Int.toNat_natCast, wrap_id, kt_fail hd h, zcI_r]
/-- what the kind of a token is, behind a digit's and a name's -/
theorem KS_two {s : Mem} {T : Tx} {u o k : Nat} (h : KS s T u o k) (h2 : isTwo T (tP T k)) : s 111 k = cA T (tP T k) ∧ tP T (k + 1) = sk T (tP T k + 1) ∧ k < u := by
  obtain ⟨h3, h4⟩ := h2
  have hlt := KS_lt h (by omega)
  by_cases h60 : cA T (tP T k) = 60
  · have h5 : ¬ cA T (tP T k + 1) = 61 := fun z => h4 ⟨h60, z⟩
    obtain ⟨p1, p2, p3, p4⟩ := h.1.2.1 k hlt
    have hE : tE T (tP T k) = tP T k + 1 := by
      unfold tE
      rw [if_neg (by omega), if_neg (fun z => h5 z.2)]
    refine ⟨?_, by show sk T (tE T (tP T k)) = _; rw [hE], hlt⟩
    rw [p4 (by omega), hE, if_neg (by omega)]
  · exact ⟨(KS_ch h (by omega)).mpr rfl, tP_one ⟨by omega, h60⟩, hlt⟩
/-- a token that no expression but a reference can begin with -/
theorem KS_none {s : Mem} {T : Tx} {u o k : Nat} (h : KS s T u o k) (h1 : ¬ okNu T 0 65535 (tP T k)) (h33 : ¬ cA T (tP T k) = 33) (h84 : ¬ cA T (tP T k) = 84) (h77 : ¬ cA T (tP T k) = 77) (h2 : ¬ isTwo T (tP T k)) : ¬ s 111 k = 2 ∧ prtK (s 111 k) = 0 := by
  have hn := (TKS_nu (lo := 0) (hi := 65535) h.2.1 h.1 h.2.2.2.2.1 (by decide)).1
  have hnum : s 111 k = 2 → -1 < s 113 k ∧ s 113 k ≤ 65535 := by
    intro hk
    by_cases e : k = u
    · rw [e, h.1.2.2.2.1] at hk
      omega
    · have hku : k < u := by have := h.2.2.2.2.1; omega
      obtain ⟨p1, p2, p3, p4⟩ := h.1.2.1 k hku
      by_cases hd : isD (cA T (tP T k))
      · obtain ⟨q1, q2⟩ := p3 hd
        rw [q2] at hk
        split at hk
        next hh =>
          have hE : tE T (tP T k) = nE T (tP T k) := if_pos hd
          have := (nV_in T (tP T k) (tE T (tP T k) - tP T k) (by have := nE_ge T (tP T k); omega)).1
          omega
        next => omega
      · rw [p4 hd] at hk
        have := h.2.1 _ p1
        rw [← cA_lt p1] at this
        split at hk <;> omega
  have k2 : ¬ s 111 k = 2 := fun hk => h1 (hn.mp ⟨hk, by have := hnum hk; omega, (hnum hk).2⟩)
  refine ⟨k2, ?_⟩
  have key : ∀ c : Int, 32 < c ∧ ¬ isD c ∧ c ≠ 60 → ¬ cA T (tP T k) = c → ¬ s 111 k = c := fun c hc hn z => hn ((KS_ch h hc).mp z)
  have k60 : ¬ s 111 k = 60 := by
    intro z
    by_cases e : k = u
    · rw [e, h.1.2.2.2.1] at z
      omega
    · have hku : k < u := by have := h.2.2.2.2.1; omega
      obtain ⟨p1, p2, p3, p4⟩ := h.1.2.1 k hku
      by_cases hd : isD (cA T (tP T k))
      · rw [(p3 hd).2] at z
        split at z <;> omega
      · rw [p4 hd] at z
        split at z
        · omega
        next hm =>
          refine h2 ⟨by omega, fun y => hm ?_⟩
          unfold tE
          rw [if_neg hd, if_pos y]
          omega
  have n2 : ∀ c : Int, c = 43 ∨ c = 45 ∨ c = 38 ∨ c = 124 ∨ c = 94 ∨ c = 61 ∨ c = 35 → ¬ s 111 k = c := fun c hc => key c (by omega) (fun z => h2 ⟨by omega, by omega⟩)
  have a1 := key 33 (by decide) h33
  have a2 := key 84 (by decide) h84
  have a3 := key 77 (by decide) h77
  have b1 := n2 43 (by decide)
  have b2 := n2 45 (by decide)
  have b3 := n2 38 (by decide)
  have b4 := n2 124 (by decide)
  have b5 := n2 94 (by decide)
  have b6 := n2 61 (by decide)
  have b7 := n2 35 (by decide)
  unfold prtK
  rw [if_neg (by omega), if_neg (by omega), if_neg (by omega)]
theorem ex_num {d k u o N P : Nat} {T : Tx} {s : Mem} {dp : Int} (hd : 2 ≤ d) (hdp : dp ≤ 6) (h : KS s T u o k) (hc : okNu T 0 65535 (tP T k)) (hpu : s 124 6 = P) (hus : s (66 + o) 7 = N) (hNk : N ≤ 25 + k) :
    XO T u o k N P s (Zc (d + 1) 135 [aR 131, aI dp] s) (bd (pNu T 0 65535 (tP T k)) fun v p1 => .ok (eNum v, p1)) := by
  have ho : o = 0 ∨ o = 26 := h.2.2.2.2.2.2
  unfold pNu
  rw [if_pos hc, bd_ok]
  have hk2 := ((TKS_nu (lo := 0) (hi := 65535) h.2.1 h.1 h.2.2.2.2.1 (by decide)).1.mpr hc).1
  obtain ⟨s1, e1, e2, e3, e4⟩ := kt_num (d := d) hd h (by decide) hc
  have hv : 0 ≤ nV T (tP T k) (nE T (tP T k) - tP T k) ∧ nV T (tP T k) (nE T (tP T k) - tP T k) ≤ 65535 := ⟨hc.2.2.2.1, hc.2.2.2.2⟩
  generalize nV T (tP T k) (nE T (tP T k) - tP T k) = v at e1 hv ⊢
  have hle := KS_le e2
  obtain ⟨n1, n2⟩ := NX_at e4
  have hnd := h.2.2.2.2.2.1
  have q6 : (0 : Int) ≤ ((66 + o : Nat) : Int) := by omega
  have hz : Zc (d + 1) 135 [aR 131, aI dp] s = rI N (nLeaf s1 o N 2 v 0 0) := by
    simp (disch := first | exact obC_131 | exact (obCO_66 ho) | omega | (simp only [List.length_cons, List.length_nil]; omega)) only [en135, x135_0, x135_1, x135_3, x135_6, x135_7, x135_10, x135_11, x135_12, x135_15, x135_16, x135_19, x135_20, x135_23, x135_24, x135_25, x135_26, x135_28, x135_31, x135_32, x135_33, x135_36, x135_37, x135_38, x135_41, x135_44, x135_45, x135_46, x135_49, x135_50, x135_53, x135_56, x135_57, x135_58, x135_59, x135_62, if_true, if_false, eq_self, Int.reduceEq, Int.reduceLT, Int.reduceLE, Int.reduceAdd, Int.reduceSub, Int.reduceMul, Int.reduceToNat, Nat.reduceAdd, Nat.reduceMul, Nat.reduceEqDiff, Int.toNat_natCast, wrap_id, if_neg (show ¬ 6 < dp by omega), kt_kind (show 1 ≤ d by omega) h, hk2, zcI_r, hnd, q6, e1, k_nLeaf (d := d) hd ho (show s1 (66 + o) 7 = N by rw [n2 _ _ (by omega), hus]) (show N < 225 by omega)]
  obtain ⟨a1, a2, a3, a4, a5, a6⟩ := nLeaf_at (s := s1) (o := o) (N := N) (a := 2) (b := v) (c := 0) (e := 0)
  refine ⟨_, k + 1, P, by rw [hz]; rfl, KS_X e2 ((nLeaf_fr (P := P)).mono (fun _ _ h => XF_X h)) (by rw [nLeaf_o (by decide) ho]; exact e2.2.2.2.1) hle.2.2, e3, Nat.le_refl _, by omega, Nat.le_refl _, by rw [nLeaf_o (by decide) ho, n1, hpu], a6, ⟨a1, by rw [a2]; omega, by omega, a5⟩, (e4.mono (fun _ _ h => NX_XF h)).tr nLeaf_fr⟩
theorem ex_ref {d k u o N P : Nat} {T : Tx} {s : Mem} {dp : Int} (hd : 3 ≤ d) (hdp : dp ≤ 6) (h : KS s T u o k) (hk : ¬ s 111 k = 2) (hp : prtK (s 111 k) = 0) (hpu : s 124 6 = P) (hPk : P ≤ k) (hus : s (66 + o) 7 = N) (hNk : N ≤ 25 + k) :
    XO T u o k N P s (Zc (d + 1) 135 [aR 131, aI dp] s) (pRf T (tP T k)) := by
  have hr := k_reference (d := d) hd h hpu hPk hus (by omega)
  have g1 : 1 ≤ d := by omega
  have key : ∀ (v : Int) (s' : Mem), Zc d 137 [aR 131] s = rI v s' → Zc (d + 1) 135 [aR 131, aI dp] s = rI v s' := by
    intro v s' e
    simp (disch := first | exact obC_131 | omega | (simp only [List.length_cons, List.length_nil]; omega)) only [en135, x135_0, x135_1, x135_3, x135_6, x135_7, x135_10, x135_11, x135_12, x135_15, x135_16, x135_19, x135_20, x135_23, x135_24, x135_25, x135_26, x135_28, x135_31, x135_32, x135_33, x135_36, x135_37, x135_38, x135_41, x135_44, x135_45, x135_46, x135_49, x135_50, x135_53, x135_56, x135_57, x135_58, x135_59, x135_62, if_true, if_false, eq_self, Int.reduceEq, Int.reduceLT, Int.reduceLE, Int.reduceAdd, Int.reduceSub, Int.reduceMul, Int.reduceToNat, Nat.reduceAdd, Nat.reduceMul, Nat.reduceEqDiff, Int.toNat_natCast, wrap_id, if_neg (show ¬ 6 < dp by omega), kt_kind g1 h, if_neg hk, zcI_r, k_partsOf g1, hp, e]
  unfold XO at hr ⊢
  cases hx : pRf T (tP T k) with
  | ok rq =>
    obtain ⟨r, q⟩ := rq
    rw [hx] at hr
    obtain ⟨s', k', P', g1, g2⟩ := hr
    exact ⟨s', k', P', key _ _ g1, g2⟩
  | error f =>
    rw [hx] at hr
    rcases hr with ⟨s', g1, g2⟩ | ⟨s', k', v, g1, g2⟩
    · exact Or.inl ⟨s', key _ _ g1, g2⟩
    · exact Or.inr ⟨s', k', v, key _ _ g1, g2⟩
theorem ex_op {d k u o : Nat} {T : Tx} {s : Mem} {dp pt : Int} (hd : 1 ≤ d) (hdp : dp ≤ 6) (h : KS s T u o k) (hk : ¬ s 111 k = 2) (hp : prtK (s 111 k) = pt) (h0 : ¬ pt = 0) {v : Int} {s' : Mem} (e : Zc d 136 [aR 131, aI pt, aI dp] s = rI v s') : Zc (d + 1) 135 [aR 131, aI dp] s = rI v s' := by
  simp (disch := first | exact obC_131 | omega | (simp only [List.length_cons, List.length_nil]; omega)) only [en135, x135_0, x135_1, x135_3, x135_6, x135_7, x135_10, x135_11, x135_12, x135_15, x135_16, x135_19, x135_20, x135_23, x135_24, x135_25, x135_26, x135_28, x135_31, x135_32, x135_33, x135_36, x135_37, x135_38, x135_41, x135_44, x135_45, x135_46, x135_49, x135_50, x135_53, x135_56, x135_57, x135_58, x135_59, x135_62, if_true, if_false, eq_self, Int.reduceEq, Int.reduceLT, Int.reduceLE, Int.reduceAdd, Int.reduceSub, Int.reduceMul, Int.reduceToNat, Nat.reduceAdd, Nat.reduceMul, Nat.reduceEqDiff, Int.toNat_natCast, wrap_id, if_neg (show ¬ 6 < dp by omega), kt_kind hd h, if_neg hk, zcI_r, k_partsOf hd, hp, if_neg h0, e]
theorem XO_op {d k u o N P : Nat} {T : Tx} {s : Mem} {dp pt : Int} {x : PR Jvm.Term} (hd : 1 ≤ d) (hdp : dp ≤ 6) (h : KS s T u o k) (hk : ¬ s 111 k = 2) (hp : prtK (s 111 k) = pt) (h0 : ¬ pt = 0) (hr : XO T u o k N P s (Zc d 136 [aR 131, aI pt, aI dp] s) x) : XO T u o k N P s (Zc (d + 1) 135 [aR 131, aI dp] s) x := by
  unfold XO at hr ⊢
  cases x with
  | ok rq =>
    obtain ⟨r, q⟩ := rq
    obtain ⟨s', k', P', g1, g2⟩ := hr
    exact ⟨s', k', P', ex_op hd hdp h hk hp h0 g1, g2⟩
  | error f =>
    rcases hr with ⟨s', g1, g2⟩ | ⟨s', k', v, g1, g2⟩
    · exact Or.inl ⟨s', ex_op hd hdp h hk hp h0 g1, g2⟩
    · exact Or.inr ⟨s', k', v, ex_op hd hdp h hk hp h0 g1, g2⟩
theorem pRf_no {T : Tx} {p : Nat} (h : ¬ isN (cA T p)) : pRf T p = .error p := by
  unfold pRf pNm
  rw [if_neg h, bd_er]
theorem k_exprS {d D u o : Nat} {T : Tx} (hd : 2 ≤ d) (hD : D < 6) (ih : KEx d D T u o) : KEx (d + 2) (D + 1) T u o := by
  intro k N P s h hpu hPk hus hNk
  have hdp : (7 : Int) - ((D + 1 : Nat) : Int) ≤ 6 := by omega
  have hdq : (7 : Int) - ((D + 1 : Nat) : Int) = (7 : Int) - D - 1 := by omega
  rw [pEx]
  by_cases hN : isN (cA T (tP T k))
  · rw [if_pos hN]
    have hk : s 111 k = cA T (tP T k) := (TKS_nm h.1 h.2.2.2.2.1).2 hN
    refine ex_ref (by omega) hdp h (by omega) ?_ hpu hPk hus hNk
    rw [hk]
    unfold prtK
    rw [if_neg (by omega), if_neg (by omega), if_neg (by omega)]
  rw [if_neg hN]
  by_cases hnu : okNu T 0 65535 (tP T k)
  · rw [if_pos hnu.1]
    exact ex_num (by omega) hdp h hnu hpu hus hNk
  by_cases hD : isD (cA T (tP T k))
  · rw [if_pos hD]
    obtain ⟨k1, k2⟩ := KS_none h hnu (by omega) (by omega) (by omega) (fun z => by have := z.1; omega)
    have hr := ex_ref (d := d + 1) (N := N) (P := P) (by omega) hdp h k1 k2 hpu hPk hus hNk
    rw [pRf_no hN] at hr
    unfold pNu
    rw [if_neg hnu, bd_er]
    exact hr
  rw [if_neg hD]
  have hkk : ∀ c : Int, (c = 33 ∨ c = 84 ∨ c = 77) → cA T (tP T k) = c → s 111 k = c := fun c hc e => (KS_ch h (by omega)).mpr e
  by_cases h33 : cA T (tP T k) = 33
  · rw [if_pos h33]
    have hk := hkk 33 (by decide) h33
    have := ex_not (N := N) (P := P) hd (by omega) ih h h33 hpu hPk hus hNk
    rw [← hdq] at this
    exact XO_op (by omega) hdp h (by omega) (by rw [hk]; rfl) (by decide) this
  rw [if_neg h33]
  by_cases h84 : cA T (tP T k) = 84
  · rw [if_pos h84]
    have hk := hkk 84 (by decide) h84
    have := ex_bits (N := N) (P := P) hd (by omega) ih h h84 hpu hPk hus hNk
    rw [← hdq] at this
    exact XO_op (by omega) hdp h (by omega) (by rw [hk]; rfl) (by decide) this
  rw [if_neg h84]
  by_cases h77 : cA T (tP T k) = 77
  · rw [if_pos h77]
    have hk := hkk 77 (by decide) h77
    have := ex_mux (N := N) (P := P) hd (by omega) ih h h77 hpu hPk hus hNk
    rw [← hdq] at this
    exact XO_op (by omega) hdp h (by omega) (by rw [hk]; rfl) (by decide) this
  rw [if_neg h77]
  by_cases h2 : isTwo T (tP T k)
  · rw [if_pos h2]
    obtain ⟨g1, g2, g3⟩ := KS_two h h2
    have hc2 : two (cA T (tP T k)) := isTwo_two h2
    generalize hv : cA T (tP T k) = v at g1 hc2 ⊢
    obtain ⟨c, rfl⟩ : ∃ n : Nat, v = n := ⟨v.toNat, by unfold two at hc2; omega⟩
    rw [Int.toNat_natCast]
    have := ex_two (N := N) (P := P) hd (by omega) ih h hc2 g1 g2 g3 hpu hPk hus hNk
    rw [← hdq] at this
    have hp2 : prtK (s 111 k) = 2 := by
      rw [g1]
      unfold two at hc2
      unfold prtK
      rw [if_neg (by omega), if_pos (by omega)]
    exact XO_op (by omega) hdp h (by unfold two at hc2; omega) hp2 (by decide) this
  · rw [if_neg h2]
    obtain ⟨k1, k2⟩ := KS_none h hnu h33 h84 h77 h2
    have hr := ex_ref (d := d + 1) (N := N) (P := P) (by omega) hdp h k1 k2 hpu hPk hus hNk
    rw [pRf_no hN] at hr
    exact hr
theorem k_expr {u o : Nat} {T : Tx} : ∀ D d : Nat, D ≤ 6 → 2 * D + 2 ≤ d → KEx d D T u o := by
  intro D
  induction D with
  | zero =>
    intro d _ hd
    obtain ⟨e, rfl⟩ : ∃ e, d = e + 1 := ⟨d - 1, by omega⟩
    exact k_expr0 (by omega)
  | succ D ih =>
    intro d hD hd
    obtain ⟨e, rfl⟩ : ∃ e, d = e + 2 := ⟨d - 2, by omega⟩
    exact k_exprS (by omega) (by omega) (ih e (by omega) (by omega))
