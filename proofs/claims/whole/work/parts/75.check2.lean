/-- what can be read, of an item -/
def iOK (i : It) : Prop := (i.1 = 4 → dpt i.2.2.2.2.2 ≤ 9) ∧ ((i.1 = 5 ∨ i.1 = 1 ∨ i.1 = 0) → ebd i.2.2.2.2.2) ∧ (i.1 = 0 → ebd i.2.2.2.2.1)
def iw (i : It) : Nat := if i.1 = 0 then 24 else 1
def isw : List It → Nat
  | [] => 0
  | i :: r => iw i + isw r
theorem prs_le {ty : Jvm.Term} {to fr : Nat} (h : tsz ty ≤ 24) : ((prs ty to fr).map fun p => ((0, p.1, .index p.2) : Lo)).length ≤ 24 := by rw [List.length_map, prs_len]; exact h
theorem cnt_le (l : List Lo) : (l.filter (fun x => x.1 == 0)).length ≤ l.length := List.length_filter_le _ _
theorem ck_bad {d k : Nat} {s : Mem} (hk : k < 120) : Ze d 36 116 [aR 0, aI k, aI 0] [] s = rI (s 26 k) s := by
  simp (disch := first | exact obC_0 | omega | (simp only [aN1_25, aN1_26, aN1_29, aN1_32]; omega) | (simp only [List.length_cons, List.length_nil]; omega)) only [en36, x36_0, x36_1, x36_2, x36_5, x36_6, x36_7, x36_10, x36_11, x36_12, x36_15, x36_16, x36_18, x36_20, x36_23, x36_24, x36_27, x36_28, x36_29, x36_30, x36_33, x36_36, x36_37, x36_39, x36_40, x36_43, x36_46, x36_47, x36_48, x36_49, x36_52, x36_53, x36_54, x36_55, x36_58, x36_59, x36_62, x36_63, x36_64, x36_65, x36_68, x36_69, x36_70, x36_73, x36_74, x36_77, x36_78, x36_81, x36_82, x36_83, x36_86, x36_87, x36_88, x36_91, x36_92, x36_95, x36_96, x36_99, x36_100, x36_101, x36_102, x36_105, x36_106, x36_107, x36_110, x36_111, x36_112, x36_115, x36_116, x36_117, x36_120, x36_121, x36_124, x36_125, x36_126, x36_127, x36_128, x36_131, x36_132, x36_133, x36_134, x36_135, x36_138, x36_141, x36_142, x36_143, x36_146, x36_147, x36_148, x36_149, x36_150, x36_153, x36_154, x36_155, x36_158, x36_161, x36_164, x36_165, fcn_0_33, fcn_0_34, fcn_0_37, fcn_0_41, if_true, if_false, eq_self, Int.reduceEq, Int.reduceLT, Int.reduceLE, Int.reduceAdd, Int.reduceSub, Int.reduceMul, Int.reduceToNat, Nat.reduceAdd, Nat.reduceMul, Nat.reduceEqDiff, Int.toNat_natCast, wrap_id]
theorem ck_go {d k : Nat} {o : Int} {s : Mem} (hd : 1 ≤ d) (hk : k < 120) (ho : s 25 k = o) (h : ¬ (1 ≤ o ∧ o ≤ 3)) : Ze d 36 116 [aR 0, aI k, aI 1] [] s = Ze d 36 38 [aR 0, aI ((k + 1 : Nat) : Int), aI 1] [] s := by
  have e : (if 1 ≤ o ∧ o ≤ 3 then (1 : Int) else 0) = 0 := if_neg h
  rw [show ((k + 1 : Nat) : Int) = (k : Int) + 1 by omega]
  simp (disch := first | exact obC_0 | omega | (simp only [aN1_25, aN1_26, aN1_29, aN1_32]; omega) | (simp only [List.length_cons, List.length_nil]; omega)) only [en36, x36_0, x36_1, x36_2, x36_5, x36_6, x36_7, x36_10, x36_11, x36_12, x36_15, x36_16, x36_18, x36_20, x36_23, x36_24, x36_27, x36_28, x36_29, x36_30, x36_33, x36_36, x36_37, x36_39, x36_40, x36_43, x36_46, x36_47, x36_48, x36_49, x36_52, x36_53, x36_54, x36_55, x36_58, x36_59, x36_62, x36_63, x36_64, x36_65, x36_68, x36_69, x36_70, x36_73, x36_74, x36_77, x36_78, x36_81, x36_82, x36_83, x36_86, x36_87, x36_88, x36_91, x36_92, x36_95, x36_96, x36_99, x36_100, x36_101, x36_102, x36_105, x36_106, x36_107, x36_110, x36_111, x36_112, x36_115, x36_116, x36_117, x36_120, x36_121, x36_124, x36_125, x36_126, x36_127, x36_128, x36_131, x36_132, x36_133, x36_134, x36_135, x36_138, x36_141, x36_142, x36_143, x36_146, x36_147, x36_148, x36_149, x36_150, x36_153, x36_154, x36_155, x36_158, x36_161, x36_164, x36_165, fcn_0_33, fcn_0_34, fcn_0_37, fcn_0_41, if_true, if_false, eq_self, Int.reduceEq, Int.reduceLT, Int.reduceLE, Int.reduceAdd, Int.reduceSub, Int.reduceMul, Int.reduceToNat, Nat.reduceAdd, Nat.reduceMul, Nat.reduceEqDiff, Int.toNat_natCast, wrap_id, ho, t_in hd, e, zcI_r]
theorem ck_st {d k n : Nat} {o v : Int} {s : Mem} (hd : 1 ≤ d) (hk : k < 120) (ho : s 25 k = o) (h : 1 ≤ o ∧ o ≤ 3) (hr : s 29 k = v) (hn : s 0 57 = n) (hn2 : n < 1100) : Ze d 36 116 [aR 0, aI k, aI 1] [] s = Ze d 36 38 [aR 0, aI ((k + 1 : Nat) : Int), aI 1] [] (lStep s n o (-1) v) := by
  have e : (if 1 ≤ o ∧ o ≤ 3 then (1 : Int) else 0) = 1 := if_pos h
  have hl := t_step (d := d) hd s hn hn2 o (-1) v
  rw [show ((k + 1 : Nat) : Int) = (k : Int) + 1 by omega]
  simp (disch := first | exact obC_0 | omega | (simp only [aN1_25, aN1_26, aN1_29, aN1_32]; omega) | (simp only [List.length_cons, List.length_nil]; omega)) only [en36, x36_0, x36_1, x36_2, x36_5, x36_6, x36_7, x36_10, x36_11, x36_12, x36_15, x36_16, x36_18, x36_20, x36_23, x36_24, x36_27, x36_28, x36_29, x36_30, x36_33, x36_36, x36_37, x36_39, x36_40, x36_43, x36_46, x36_47, x36_48, x36_49, x36_52, x36_53, x36_54, x36_55, x36_58, x36_59, x36_62, x36_63, x36_64, x36_65, x36_68, x36_69, x36_70, x36_73, x36_74, x36_77, x36_78, x36_81, x36_82, x36_83, x36_86, x36_87, x36_88, x36_91, x36_92, x36_95, x36_96, x36_99, x36_100, x36_101, x36_102, x36_105, x36_106, x36_107, x36_110, x36_111, x36_112, x36_115, x36_116, x36_117, x36_120, x36_121, x36_124, x36_125, x36_126, x36_127, x36_128, x36_131, x36_132, x36_133, x36_134, x36_135, x36_138, x36_141, x36_142, x36_143, x36_146, x36_147, x36_148, x36_149, x36_150, x36_153, x36_154, x36_155, x36_158, x36_161, x36_164, x36_165, fcn_0_33, fcn_0_34, fcn_0_37, fcn_0_41, if_true, if_false, eq_self, Int.reduceEq, Int.reduceLT, Int.reduceLE, Int.reduceAdd, Int.reduceSub, Int.reduceMul, Int.reduceToNat, Nat.reduceAdd, Nat.reduceMul, Nat.reduceEqDiff, Int.toNat_natCast, wrap_id, ho, hr, t_in hd, e, zcI_r, zcV_r, hl]
/-- after the check -/
def CKE (s : Mem) (N : Nat) (cv : List (Option Jvm.Term)) (sg : List Sg) (lo : List Lo) : Prop :=
  s 0 50 = sg.length ∧ sg.length ≤ 24 ∧ SGs s N sg ∧ s 0 57 = lo.length ∧ lo.length ≤ 1100 ∧ LOs s N lo ∧ s 0 58 = ((lo.filter (fun x => x.1 == 0)).length : Nat) ∧ CVs s 0 cv N
def CKR (N n : Nat) (cv : List (Option Jvm.Term)) (s : Mem) (Z : Option Res) (x : Except Nat (List Sg × List Lo)) : Prop :=
  match x with
  | .ok (sg, lo) => ∃ s', Z = rI (-1) s' ∧ CKE s' N cv sg lo ∧ Fr (CF n N) s s'
  | .error p => ∃ s', Z = rI p s' ∧ Fr (CF n N) s s'
theorem CKR_tr {N n n' : Nat} {cv : List (Option Jvm.Term)} {s s' : Mem} {Z : Option Res} {x : Except Nat (List Sg × List Lo)} (hn : n ≤ n') (f : Fr (CF n N) s s') (h : CKR N n' cv s' Z x) : CKR N n cv s Z x := by
  cases x with
  | error p =>
    obtain ⟨s2, h1, h2⟩ := h
    exact ⟨s2, h1, f.tr (h2.mono (fun _ _ => CF_sub hn (Nat.le_refl _)))⟩
  | ok r =>
    obtain ⟨sg, lo⟩ := r
    obtain ⟨s2, h1, h2, h3⟩ := h
    exact ⟨s2, h1, h2, f.tr (h3.mono (fun _ _ => CF_sub hn (Nat.le_refl _)))⟩
theorem RIs_le {s : Mem} {N M C : Nat} : ∀ (l : List It) (k n : Nat), RIs s N M C k n l → n ≤ N
  | [], _, _, h => Nat.le_of_eq h
  | _ :: l, k, n, ⟨n', h1, _, h3⟩ => by have := RIs_le l (k + 1) n' h3; omega
theorem CK_lStep {s : Mem} {N M C : Nat} {env : EnvT} {sg : List Sg} {lo : List Lo} {o g v : Int} {x : Lo} (h : CK s N M C env sg lo) (hl : lo.length < 1100) (hx : ∀ s', s' 41 lo.length = o → s' 43 lo.length = v → AR s s' 0 N → LOR s' N lo.length x) (hx0 : x.1 ≠ 0) : CK (lStep s lo.length o g v) N M C env sg (lo ++ [x]) := by
  obtain ⟨hEN, hOK, hsg, hsg24, hSG, hlo, hLO⟩ := h
  obtain ⟨a1, a2, a3, a4⟩ := lStep_at (s := s) (n := lo.length) (o := o) (g := g) (e := v)
  have f : Fr (cxF lo.length 1100) s (lStep s lo.length o g v) := lStep_fr (Nat.le_refl _) hl
  generalize lStep s lo.length o g v = s' at *
  have kk : ∀ {c j : Nat}, 1 ≤ c ∧ c ≤ 40 → s' c j = s c j := fun h => f _ _ (by unfold cxF; omega)
  have A : ∀ N, AR s s' 0 N := fun N c j hc _ _ => kk (by omega)
  refine ⟨EN_put (fun c j z => kk (by omega)) hEN, hOK, by rw [f _ _ (by unfold cxF; omega), hsg], hsg24, SGs_put (Nat.le_refl _) (A N) (fun c j hc _ => kk (by omega)) hSG, by rw [a4, List.length_append]; rfl, LOs_app (LOs_put (Nat.le_refl _) (A N) (fun c j hc hj => f _ _ (by unfold cxF; omega)) hLO) (fun i y hy => ?_)⟩
  have hi : i = 0 := by
    have := (List.getElem?_eq_some_iff.mp hy).1
    rw [List.length_singleton] at this
    omega
  subst hi
  cases hy
  exact hx s' a1 a3 (A N)
theorem lStep_CF {s : Mem} {n a b : Nat} {o g v : Int} (h : n < 1100) : Fr (CF a b) s (lStep s n o g v) := by
  refine (lStep_fr (L := n) (b := 1100) (Nat.le_refl _) h).mono (fun c j z => ?_)
  rcases z with ⟨z1, z2 | z2⟩ | z
  · exact Or.inl ⟨z1, by omega⟩
  · exact Or.inl ⟨z1, by omega⟩
  · exact Or.inr (Or.inr (Or.inr (Or.inl ⟨z.1, z.2.1, by omega⟩)))
theorem cnt_app {a b : List Lo} : ((a ++ b).filter (fun x => x.1 == 0)).length = (a.filter (fun x => x.1 == 0)).length + (b.filter (fun x => x.1 == 0)).length := by rw [List.filter_append, List.length_append]
theorem ck1_len {env env' : EnvT} {sg sg' : List Sg} {i : It} {lo' : List Lo} {L : Nat} (hE : eOK env L) (hL : L ≤ 24) (h : ck1 env sg i = some (env', sg', lo')) : lo'.length ≤ iw i := by
  unfold ck1 at h
  by_cases h4 : i.1 = 4
  · rw [if_pos h4] at h
    split at h
    · cases h; exact Nat.zero_le _
    · exact (nomatch h)
  rw [if_neg h4] at h
  by_cases h5 : i.1 = 5
  · rw [if_pos h5] at h
    split at h
    · split at h
      · cases h; exact Nat.zero_le _
      · exact (nomatch h)
    · exact (nomatch h)
  rw [if_neg h5] at h
  by_cases h0 : i.1 = 0
  · rw [if_pos h0] at h
    unfold iw
    rw [if_pos h0]
    split at h
    next lo hc =>
      cases h
      unfold cn at hc
      split at hc
      · split at hc
        next to ty f hl =>
          have hz := lk_ok hE hl
          split at hc
          · unfold cnG at hc
            split at hc
            · split at hc
              · cases hc; exact (by decide : 1 ≤ 24)
              · exact (nomatch hc)
            · exact (nomatch hc)
          · unfold cnB at hc
            split at hc
            · split at hc
              · split at hc
                · exact (nomatch hc)
                · split at hc
                  · split at hc
                    · cases hc
                      exact prs_le (by omega)
                    · exact (nomatch hc)
                  · exact (nomatch hc)
              · exact (nomatch hc)
            · exact (nomatch hc)
        · exact (nomatch hc)
      · exact (nomatch hc)
    next => exact (nomatch h)
  rw [if_neg h0] at h
  unfold iw
  rw [if_neg h0]
  by_cases h1 : i.1 = 1
  · rw [if_pos h1] at h
    split at h
    · cases h; exact (by decide : 1 ≤ 1)
    · exact (nomatch h)
  · rw [if_neg h1] at h
    cases h; exact (by decide : 1 ≤ 1)
theorem ck_step {d k n n' M C : Nat} {i : It} {env : EnvT} {sg : List Sg} {lo : List Lo} {s : Mem} {l2 : AV} (hd : 3 ≤ d) (hM : M ≤ 200) (hC : C ≤ 100) (hk : k < 120) (hnz : n' = n + nsz i) (hn2 : n' ≤ 200) (hI : RI s k n n' M C i) (hi : iOK i) (hCK : CK s n M C env sg lo) (hw : lo.length + iw i ≤ 1100) (hst : ∃ z : Nat, s 0 40 = z ∧ k < z) (hcn : ∃ c : Nat, s 0 58 = c ∧ c ≤ 1100) :
    match ck1 env sg i with
    | some (env', sg', lo') => ∃ s' l2', Ze d 36 38 [aR 0, aI k, l2] [] s = Ze d 36 38 [aR 0, aI ((k + 1 : Nat) : Int), l2'] [] s' ∧ CK s' n' M C env' sg' (lo ++ lo') ∧ s' 0 58 = s 0 58 + ((lo'.filter (fun x => x.1 == 0)).length : Nat) ∧ CVs s' n (cv1 env i) n' ∧ Fr (CF n n') s s'
    | none => ∃ s', Ze d 36 38 [aR 0, aI k, l2] [] s = rI (i.2.1 : Nat) s' ∧ Fr (CF n n') s s' := by
  obtain ⟨z, hz, hkz⟩ := hst
  have hI' := hI
  have hn : n ≤ n' := by omega
  obtain ⟨r1, r2, r3⟩ := hI
  obtain ⟨i1, i2, i3⟩ := hi
  have six : i.1 = 0 ∨ i.1 = 1 ∨ i.1 = 2 ∨ i.1 = 3 ∨ i.1 = 4 ∨ i.1 = 5 := by
    rcases r3 with ⟨q, -⟩ | ⟨q, -⟩ | q | q | ⟨q, -⟩ | ⟨q, -⟩ <;> omega
  have fin : ∀ (o : Nat), i.1 = o → (o = 0 ∨ o = 4 ∨ o = 5) → ∀ Z, CS n n' M C (cv1 env i) sg lo s Z (ck1 env sg i) → (∀ g s', Z = rI g s' → Ze d 36 38 [aR 0, aI k, l2] [] s = Ze d 36 116 [aR 0, aI k, aI g] [] s') → match ck1 env sg i with
    | some (env', sg', lo') => ∃ s' l2', Ze d 36 38 [aR 0, aI k, l2] [] s = Ze d 36 38 [aR 0, aI ((k + 1 : Nat) : Int), l2'] [] s' ∧ CK s' n' M C env' sg' (lo ++ lo') ∧ s' 0 58 = s 0 58 + ((lo'.filter (fun x => x.1 == 0)).length : Nat) ∧ CVs s' n (cv1 env i) n' ∧ Fr (CF n n') s s'
    | none => ∃ s', Ze d 36 38 [aR 0, aI k, l2] [] s = rI (i.2.1 : Nat) s' ∧ Fr (CF n n') s s' := by
    intro o ho ho2 Z hCS hZ
    cases hq : ck1 env sg i with
    | none =>
      rw [hq] at hCS
      obtain ⟨s', q1, q2⟩ := hCS
      refine ⟨s', ?_, q2⟩
      rw [hZ 0 s' q1, ck_bad hk, q2 _ _ (CF_no (by decide)), r2]
    | some x =>
      obtain ⟨env', sg', lo'⟩ := x
      rw [hq] at hCS
      obtain ⟨s', q1, q2, q3, qv, q4⟩ := hCS
      refine ⟨s', aI 1, ?_, q2, q3, qv, q4⟩
      rw [hZ 1 s' q1]
      exact ck_go (o := i.1) (by omega) hk (by rw [q4 _ _ (CF_no (by decide)), r1]) (by omega)
  have hlt : (k : Int) < z := by omega
  rcases six with h | h | h | h | h | h
  · rw [h] at r1
    have r1 : s 25 k = 0 := r1
    have hw' : iw i = 24 := if_pos h
    refine fin 0 h (Or.inl rfl) _ (t_connects (d := d) hd hM hC hk hnz hn2 hI' h (i3 h) (i2 (Or.inr (Or.inr h))) hCK (by omega) hcn) (fun g s' hZ => ?_)
    rw [x36_38]
    simp (disch := first | exact obC_0 | omega | (simp only [aN1_25, aN1_26, aN1_29, aN1_32]; omega) | (simp only [List.length_cons, List.length_nil]; omega)) only [en36, x36_0, x36_1, x36_2, x36_5, x36_6, x36_7, x36_10, x36_11, x36_12, x36_15, x36_16, x36_18, x36_20, x36_23, x36_24, x36_27, x36_28, x36_29, x36_30, x36_33, x36_36, x36_37, x36_39, x36_40, x36_43, x36_46, x36_47, x36_48, x36_49, x36_52, x36_53, x36_54, x36_55, x36_58, x36_59, x36_62, x36_63, x36_64, x36_65, x36_68, x36_69, x36_70, x36_73, x36_74, x36_77, x36_78, x36_81, x36_82, x36_83, x36_86, x36_87, x36_88, x36_91, x36_92, x36_95, x36_96, x36_99, x36_100, x36_101, x36_102, x36_105, x36_106, x36_107, x36_110, x36_111, x36_112, x36_115, x36_117, x36_120, x36_121, x36_124, x36_125, x36_126, x36_127, x36_128, x36_131, x36_132, x36_133, x36_134, x36_135, x36_138, x36_141, x36_142, x36_143, x36_146, x36_147, x36_148, x36_149, x36_150, x36_153, x36_154, x36_155, x36_158, x36_161, x36_164, x36_165, fcn_0_33, fcn_0_34, fcn_0_37, fcn_0_41, if_true, if_false, eq_self, Int.reduceEq, Int.reduceLT, Int.reduceLE, Int.reduceAdd, Int.reduceSub, Int.reduceMul, Int.reduceToNat, Nat.reduceAdd, Nat.reduceMul, Nat.reduceEqDiff, Int.toNat_natCast, wrap_id, hz, r1, hZ, zcI_r, if_pos hlt]
  · rw [h] at r1
    have r1 : s 25 k = 1 := r1
    have hw' : iw i = 1 := if_neg (by omega)
    obtain ⟨b, g1, g2, g3, g4⟩ : ∃ b : Nat, s 29 k = b ∧ n ≤ b ∧ RE s i.2.2.2.2.2 b ∧ b + esz i.2.2.2.2.2 ≤ n' := by
      rcases r3 with ⟨q, -⟩ | ⟨q, h⟩ | q | q | ⟨q, -⟩ | ⟨q, -⟩
      · omega
      · exact h
      all_goals omega
    have hbd := i2 (Or.inr (Or.inl h))
    unfold ck1
    rw [if_neg (show ¬ i.1 = 4 by omega), if_neg (show ¬ i.1 = 5 by omega), if_neg (show ¬ i.1 = 0 by omega), if_pos h]
    generalize hee : i.2.2.2.2.2 = e at hbd g3 g4 ⊢
    have hpos := esz_pos e
    have hS := t_settles (d := d) (root := b) (by omega) s hM hC (by omega) g3 hCK.1 hbd
    cases hq : rE env e with
    | none =>
      rw [hq] at hS
      obtain ⟨s1, q1, q2⟩ := hS
      have hF : Fr (CF n n') s s1 := q2.mono (fun c j z => FST_CF (FST_sub g2 g4 z))
      refine ⟨s1, ?_, hF⟩
      have hz1 : Ze d 36 38 [aR 0, aI k, l2] [] s = Ze d 36 116 [aR 0, aI k, aI 0] [] s1 := by
        rw [x36_38]
        simp (disch := first | exact obC_0 | omega | (simp only [aN1_25, aN1_26, aN1_29, aN1_32]; omega) | (simp only [List.length_cons, List.length_nil]; omega)) only [en36, x36_0, x36_1, x36_2, x36_5, x36_6, x36_7, x36_10, x36_11, x36_12, x36_15, x36_16, x36_18, x36_20, x36_23, x36_24, x36_27, x36_28, x36_29, x36_30, x36_33, x36_36, x36_37, x36_39, x36_40, x36_43, x36_46, x36_47, x36_48, x36_49, x36_52, x36_53, x36_54, x36_55, x36_58, x36_59, x36_62, x36_63, x36_64, x36_65, x36_68, x36_69, x36_70, x36_73, x36_74, x36_77, x36_78, x36_81, x36_82, x36_83, x36_86, x36_87, x36_88, x36_91, x36_92, x36_95, x36_96, x36_99, x36_100, x36_101, x36_102, x36_105, x36_106, x36_107, x36_110, x36_111, x36_112, x36_115, x36_117, x36_120, x36_121, x36_124, x36_125, x36_126, x36_127, x36_128, x36_131, x36_132, x36_133, x36_134, x36_135, x36_138, x36_141, x36_142, x36_143, x36_146, x36_147, x36_148, x36_149, x36_150, x36_153, x36_154, x36_155, x36_158, x36_161, x36_164, x36_165, fcn_0_33, fcn_0_34, fcn_0_37, fcn_0_41, if_true, if_false, eq_self, Int.reduceEq, Int.reduceLT, Int.reduceLE, Int.reduceAdd, Int.reduceSub, Int.reduceMul, Int.reduceToNat, Nat.reduceAdd, Nat.reduceMul, Nat.reduceEqDiff, Int.toNat_natCast, wrap_id, hz, r1, g1, q1, zcI_r, if_pos hlt]
      rw [hz1, ck_bad hk, hF _ _ (CF_no (by decide)), r2]
    | some e' =>
      rw [hq] at hS
      obtain ⟨s1, q1, q2, q3⟩ := hS
      have hze := rE_esz hq
      have hF : Fr (CF n n') s s1 := q3.mono (fun c j z => FST_CF (FST_sub g2 g4 z))
      have hz1 : Ze d 36 38 [aR 0, aI k, l2] [] s = Ze d 36 116 [aR 0, aI k, aI 1] [] s1 := by
        rw [x36_38]
        simp (disch := first | exact obC_0 | omega | (simp only [aN1_25, aN1_26, aN1_29, aN1_32]; omega) | (simp only [List.length_cons, List.length_nil]; omega)) only [en36, x36_0, x36_1, x36_2, x36_5, x36_6, x36_7, x36_10, x36_11, x36_12, x36_15, x36_16, x36_18, x36_20, x36_23, x36_24, x36_27, x36_28, x36_29, x36_30, x36_33, x36_36, x36_37, x36_39, x36_40, x36_43, x36_46, x36_47, x36_48, x36_49, x36_52, x36_53, x36_54, x36_55, x36_58, x36_59, x36_62, x36_63, x36_64, x36_65, x36_68, x36_69, x36_70, x36_73, x36_74, x36_77, x36_78, x36_81, x36_82, x36_83, x36_86, x36_87, x36_88, x36_91, x36_92, x36_95, x36_96, x36_99, x36_100, x36_101, x36_102, x36_105, x36_106, x36_107, x36_110, x36_111, x36_112, x36_115, x36_117, x36_120, x36_121, x36_124, x36_125, x36_126, x36_127, x36_128, x36_131, x36_132, x36_133, x36_134, x36_135, x36_138, x36_141, x36_142, x36_143, x36_146, x36_147, x36_148, x36_149, x36_150, x36_153, x36_154, x36_155, x36_158, x36_161, x36_164, x36_165, fcn_0_33, fcn_0_34, fcn_0_37, fcn_0_41, if_true, if_false, eq_self, Int.reduceEq, Int.reduceLT, Int.reduceLE, Int.reduceAdd, Int.reduceSub, Int.reduceMul, Int.reduceToNat, Nat.reduceAdd, Nat.reduceMul, Nat.reduceEqDiff, Int.toNat_natCast, wrap_id, hz, r1, g1, q1, zcI_r, if_pos hlt]
      obtain ⟨hEN, hOK, hsg, hsg24, hSG, hlo, hLO⟩ := hCK
      have k1 : ∀ {c j : Nat}, c ≠ 0 → c ≠ 15 → s1 c j = s c j := fun h1 h2 => q3 _ _ (FST_k ⟨h1, h2⟩)
      have z1 : ∀ {j : Nat}, j ≠ 51 ∧ j ≠ 52 ∧ j ≠ 53 → s1 0 j = s 0 j := fun h1 => q3 _ _ (by unfold FST FND; omega)
      have A : AR s s1 0 n := CF_AR hF
      have hCK1 : CK s1 n' M C env sg lo := ⟨EN_put (fun c j z => k1 (by omega) (by omega)) hEN, hOK, by rw [z1 (by decide), hsg], hsg24, SGs_put hn A (fun c j hc _ => k1 (by omega) (by omega)) hSG, by rw [z1 (by decide), hlo], LOs_put hn A (fun c j hc _ => k1 (by omega) (by omega)) hLO⟩
      have hst := ck_st (d := d) (k := k) (n := lo.length) (o := 1) (v := b) (s := s1) (by omega) hk (by rw [k1 (by decide) (by decide), r1]) (by decide) (by rw [k1 (by decide) (by decide), g1]) hCK1.2.2.2.2.2.1 (by omega)
      refine ⟨_, aI 1, hz1.trans hst, CK_lStep hCK1 (by omega) (fun s' y1 y2 y3 => ⟨y1, fun z => absurd (show (1 : Nat) = 0 from z) (by decide), fun _ => ⟨b, y2, RR_low y3 q2 (by rw [hze]; exact g4), by rw [hze]; exact g4⟩⟩) (show (1 : Nat) ≠ 0 by decide), ?_, ?_, hF.tr (lStep_CF (by omega))⟩
      · rw [lStep_0 (by decide), z1 (by decide)]
        exact (Int.add_zero _).symm
      · unfold cv1
        rw [if_pos (Or.inr h), hee, hq]
        unfold nsz at hnz
        rw [if_neg (by omega), if_pos (Or.inl h), hee] at hnz
        have hbn : b = n := by omega
        subst hbn
        exact ⟨RR_put q2 (fun c j hc _ _ => lStep_fr (L := lo.length) (b := 1100) (Nat.le_refl _) (by omega) _ _ (by unfold cxF; omega)), by rw [hze]; exact hnz.symm⟩
  · rw [h] at r1
    have r1 : s 25 k = 2 := r1
    have hw' : iw i = 1 := if_neg (by omega)
    unfold ck1
    rw [if_neg (show ¬ i.1 = 4 by omega), if_neg (show ¬ i.1 = 5 by omega), if_neg (show ¬ i.1 = 0 by omega), if_neg (show ¬ i.1 = 1 by omega), h]
    have hCK1 : CK s n' M C env sg lo := ⟨hCK.1, hCK.2.1, hCK.2.2.1, hCK.2.2.2.1, SGs_put hn (fun c j _ _ _ => rfl) (fun c j _ _ => rfl) hCK.2.2.2.2.1, hCK.2.2.2.2.2.1, LOs_put hn (fun c j _ _ _ => rfl) (fun c j _ _ => rfl) hCK.2.2.2.2.2.2⟩
    have hz1 : Ze d 36 38 [aR 0, aI k, l2] [] s = Ze d 36 116 [aR 0, aI k, aI 1] [] s := by
      rw [x36_38]
      simp (disch := first | exact obC_0 | omega | (simp only [aN1_25, aN1_26, aN1_29, aN1_32]; omega) | (simp only [List.length_cons, List.length_nil]; omega)) only [en36, x36_0, x36_1, x36_2, x36_5, x36_6, x36_7, x36_10, x36_11, x36_12, x36_15, x36_16, x36_18, x36_20, x36_23, x36_24, x36_27, x36_28, x36_29, x36_30, x36_33, x36_36, x36_37, x36_39, x36_40, x36_43, x36_46, x36_47, x36_48, x36_49, x36_52, x36_53, x36_54, x36_55, x36_58, x36_59, x36_62, x36_63, x36_64, x36_65, x36_68, x36_69, x36_70, x36_73, x36_74, x36_77, x36_78, x36_81, x36_82, x36_83, x36_86, x36_87, x36_88, x36_91, x36_92, x36_95, x36_96, x36_99, x36_100, x36_101, x36_102, x36_105, x36_106, x36_107, x36_110, x36_111, x36_112, x36_115, x36_117, x36_120, x36_121, x36_124, x36_125, x36_126, x36_127, x36_128, x36_131, x36_132, x36_133, x36_134, x36_135, x36_138, x36_141, x36_142, x36_143, x36_146, x36_147, x36_148, x36_149, x36_150, x36_153, x36_154, x36_155, x36_158, x36_161, x36_164, x36_165, fcn_0_33, fcn_0_34, fcn_0_37, fcn_0_41, if_true, if_false, eq_self, Int.reduceEq, Int.reduceLT, Int.reduceLE, Int.reduceAdd, Int.reduceSub, Int.reduceMul, Int.reduceToNat, Nat.reduceAdd, Nat.reduceMul, Nat.reduceEqDiff, Int.toNat_natCast, wrap_id, hz, r1, if_pos hlt]
    have hst := ck_st (d := d) (k := k) (n := lo.length) (o := 2) (s := s) (by omega) hk r1 (by decide) rfl hCK1.2.2.2.2.2.1 (by omega)
    refine ⟨_, aI 1, hz1.trans hst, CK_lStep hCK1 (by omega) (fun s' y1 y2 y3 => ⟨y1, fun z => absurd (show (2 : Nat) = 0 from z) (by decide), fun z => absurd (show (2 : Nat) = 1 from z) (by decide)⟩) (by decide), ?_, ?_, lStep_CF (by omega)⟩
    · rw [lStep_0 (by decide)]
      exact (Int.add_zero _).symm
    · unfold cv1
      rw [if_neg (by omega), if_neg (by omega)]
      unfold nsz at hnz
      rw [if_neg (by omega), if_neg (by omega)] at hnz
      exact hnz.symm
  · rw [h] at r1
    have r1 : s 25 k = 3 := r1
    have hw' : iw i = 1 := if_neg (by omega)
    unfold ck1
    rw [if_neg (show ¬ i.1 = 4 by omega), if_neg (show ¬ i.1 = 5 by omega), if_neg (show ¬ i.1 = 0 by omega), if_neg (show ¬ i.1 = 1 by omega), h]
    have hCK1 : CK s n' M C env sg lo := ⟨hCK.1, hCK.2.1, hCK.2.2.1, hCK.2.2.2.1, SGs_put hn (fun c j _ _ _ => rfl) (fun c j _ _ => rfl) hCK.2.2.2.2.1, hCK.2.2.2.2.2.1, LOs_put hn (fun c j _ _ _ => rfl) (fun c j _ _ => rfl) hCK.2.2.2.2.2.2⟩
    have hz1 : Ze d 36 38 [aR 0, aI k, l2] [] s = Ze d 36 116 [aR 0, aI k, aI 1] [] s := by
      rw [x36_38]
      simp (disch := first | exact obC_0 | omega | (simp only [aN1_25, aN1_26, aN1_29, aN1_32]; omega) | (simp only [List.length_cons, List.length_nil]; omega)) only [en36, x36_0, x36_1, x36_2, x36_5, x36_6, x36_7, x36_10, x36_11, x36_12, x36_15, x36_16, x36_18, x36_20, x36_23, x36_24, x36_27, x36_28, x36_29, x36_30, x36_33, x36_36, x36_37, x36_39, x36_40, x36_43, x36_46, x36_47, x36_48, x36_49, x36_52, x36_53, x36_54, x36_55, x36_58, x36_59, x36_62, x36_63, x36_64, x36_65, x36_68, x36_69, x36_70, x36_73, x36_74, x36_77, x36_78, x36_81, x36_82, x36_83, x36_86, x36_87, x36_88, x36_91, x36_92, x36_95, x36_96, x36_99, x36_100, x36_101, x36_102, x36_105, x36_106, x36_107, x36_110, x36_111, x36_112, x36_115, x36_117, x36_120, x36_121, x36_124, x36_125, x36_126, x36_127, x36_128, x36_131, x36_132, x36_133, x36_134, x36_135, x36_138, x36_141, x36_142, x36_143, x36_146, x36_147, x36_148, x36_149, x36_150, x36_153, x36_154, x36_155, x36_158, x36_161, x36_164, x36_165, fcn_0_33, fcn_0_34, fcn_0_37, fcn_0_41, if_true, if_false, eq_self, Int.reduceEq, Int.reduceLT, Int.reduceLE, Int.reduceAdd, Int.reduceSub, Int.reduceMul, Int.reduceToNat, Nat.reduceAdd, Nat.reduceMul, Nat.reduceEqDiff, Int.toNat_natCast, wrap_id, hz, r1, if_pos hlt]
    have hst := ck_st (d := d) (k := k) (n := lo.length) (o := 3) (s := s) (by omega) hk r1 (by decide) rfl hCK1.2.2.2.2.2.1 (by omega)
    refine ⟨_, aI 1, hz1.trans hst, CK_lStep hCK1 (by omega) (fun s' y1 y2 y3 => ⟨y1, fun z => absurd (show (3 : Nat) = 0 from z) (by decide), fun z => absurd (show (3 : Nat) = 1 from z) (by decide)⟩) (by decide), ?_, ?_, lStep_CF (by omega)⟩
    · rw [lStep_0 (by decide)]
      exact (Int.add_zero _).symm
    · unfold cv1
      rw [if_neg (by omega), if_neg (by omega)]
      unfold nsz at hnz
      rw [if_neg (by omega), if_neg (by omega)] at hnz
      exact hnz.symm
  · rw [h] at r1
    have r1 : s 25 k = 4 := r1
    refine fin 4 h (Or.inr (Or.inl rfl)) _ (t_declare4 (d := d) (by omega) hM hC hk hnz hI' h (i1 h) hCK) (fun g s' hZ => ?_)
    rw [x36_38]
    simp (disch := first | exact obC_0 | omega | (simp only [aN1_25, aN1_26, aN1_29, aN1_32]; omega) | (simp only [List.length_cons, List.length_nil]; omega)) only [en36, x36_0, x36_1, x36_2, x36_5, x36_6, x36_7, x36_10, x36_11, x36_12, x36_15, x36_16, x36_18, x36_20, x36_23, x36_24, x36_27, x36_28, x36_29, x36_30, x36_33, x36_36, x36_37, x36_39, x36_40, x36_43, x36_46, x36_47, x36_48, x36_49, x36_52, x36_53, x36_54, x36_55, x36_58, x36_59, x36_62, x36_63, x36_64, x36_65, x36_68, x36_69, x36_70, x36_73, x36_74, x36_77, x36_78, x36_81, x36_82, x36_83, x36_86, x36_87, x36_88, x36_91, x36_92, x36_95, x36_96, x36_99, x36_100, x36_101, x36_102, x36_105, x36_106, x36_107, x36_110, x36_111, x36_112, x36_115, x36_117, x36_120, x36_121, x36_124, x36_125, x36_126, x36_127, x36_128, x36_131, x36_132, x36_133, x36_134, x36_135, x36_138, x36_141, x36_142, x36_143, x36_146, x36_147, x36_148, x36_149, x36_150, x36_153, x36_154, x36_155, x36_158, x36_161, x36_164, x36_165, fcn_0_33, fcn_0_34, fcn_0_37, fcn_0_41, if_true, if_false, eq_self, Int.reduceEq, Int.reduceLT, Int.reduceLE, Int.reduceAdd, Int.reduceSub, Int.reduceMul, Int.reduceToNat, Nat.reduceAdd, Nat.reduceMul, Nat.reduceEqDiff, Int.toNat_natCast, wrap_id, hz, r1, hZ, zcI_r, if_pos hlt]
  · rw [h] at r1
    have r1 : s 25 k = 5 := r1
    refine fin 5 h (Or.inr (Or.inr rfl)) _ (t_declare5 (d := d) (by omega) hM hC hk hnz hn2 hI' h (i2 (Or.inl h)) hCK) (fun g s' hZ => ?_)
    rw [x36_38]
    simp (disch := first | exact obC_0 | omega | (simp only [aN1_25, aN1_26, aN1_29, aN1_32]; omega) | (simp only [List.length_cons, List.length_nil]; omega)) only [en36, x36_0, x36_1, x36_2, x36_5, x36_6, x36_7, x36_10, x36_11, x36_12, x36_15, x36_16, x36_18, x36_20, x36_23, x36_24, x36_27, x36_28, x36_29, x36_30, x36_33, x36_36, x36_37, x36_39, x36_40, x36_43, x36_46, x36_47, x36_48, x36_49, x36_52, x36_53, x36_54, x36_55, x36_58, x36_59, x36_62, x36_63, x36_64, x36_65, x36_68, x36_69, x36_70, x36_73, x36_74, x36_77, x36_78, x36_81, x36_82, x36_83, x36_86, x36_87, x36_88, x36_91, x36_92, x36_95, x36_96, x36_99, x36_100, x36_101, x36_102, x36_105, x36_106, x36_107, x36_110, x36_111, x36_112, x36_115, x36_117, x36_120, x36_121, x36_124, x36_125, x36_126, x36_127, x36_128, x36_131, x36_132, x36_133, x36_134, x36_135, x36_138, x36_141, x36_142, x36_143, x36_146, x36_147, x36_148, x36_149, x36_150, x36_153, x36_154, x36_155, x36_158, x36_161, x36_164, x36_165, fcn_0_33, fcn_0_34, fcn_0_37, fcn_0_41, if_true, if_false, eq_self, Int.reduceEq, Int.reduceLT, Int.reduceLE, Int.reduceAdd, Int.reduceSub, Int.reduceMul, Int.reduceToNat, Nat.reduceAdd, Nat.reduceMul, Nat.reduceEqDiff, Int.toNat_natCast, wrap_id, hz, r1, hZ, zcI_r, if_pos hlt]
/-- the expressions by the nodes, of all items -/
noncomputable def cvA : EnvT → List Sg → List It → List (Option Jvm.Term)
  | _, _, [] => []
  | env, sg, i :: r => cv1 env i ++ match ck1 env sg i with
    | some (env', sg', _) => cvA env' sg' r
    | none => []
theorem ck_all {d N M C K : Nat} (hd : 3 ≤ d) (hM : M ≤ 200) (hC : C ≤ 100) (hN : N ≤ 200) (hK : K ≤ 100) : ∀ (its : List It) (k n : Nat) (env : EnvT) (sg : List Sg) (lo : List Lo) (s : Mem) (l2 : AV) (cv : List (Option Jvm.Term)), CVs s 0 cv n → k + its.length = K → s 0 40 = K → RIs s N M C k n its → (∀ i, i ∈ its → iOK i) → CK s n M C env sg lo → lo.length + isw its ≤ 1100 → s 0 58 = ((lo.filter (fun x => x.1 == 0)).length : Nat) →
    CKR N n (cv ++ cvA env sg its) s (Ze d 36 38 [aR 0, aI k, l2] [] s) (ckA env sg lo its) := by
  intro its
  induction its with
  | nil =>
    intro k n env sg lo s l2 cv hcv hk hst hR hi hCK hw hcn
    obtain ⟨hEN, hOK, hsg, hsg24, hSG, hlo, hLO⟩ := hCK
    rw [List.length_nil] at hk
    have hnN : n ≤ N := Nat.le_of_eq hR
    refine ⟨s, ?_, ⟨hsg, hsg24, SGs_put hnN (fun c j _ _ _ => rfl) (fun c j _ _ => rfl) hSG, hlo, by unfold isw at hw; omega, LOs_put hnN (fun c j _ _ _ => rfl) (fun c j _ _ => rfl) hLO, hcn, by unfold cvA; rw [List.append_nil]; exact (show n = N from hR) ▸ hcv⟩, Fr.rf s⟩
    rw [x36_38]
    simp (disch := first | exact obC_0 | omega | (simp only [aN1_25, aN1_26, aN1_29, aN1_32]; omega) | (simp only [List.length_cons, List.length_nil]; omega)) only [en36, x36_0, x36_1, x36_2, x36_5, x36_6, x36_7, x36_10, x36_11, x36_12, x36_15, x36_16, x36_18, x36_20, x36_23, x36_24, x36_27, x36_28, x36_29, x36_30, x36_33, x36_36, x36_37, x36_39, x36_40, x36_43, x36_46, x36_47, x36_48, x36_49, x36_52, x36_53, x36_54, x36_55, x36_58, x36_59, x36_62, x36_63, x36_64, x36_65, x36_68, x36_69, x36_70, x36_73, x36_74, x36_77, x36_78, x36_81, x36_82, x36_83, x36_86, x36_87, x36_88, x36_91, x36_92, x36_95, x36_96, x36_99, x36_100, x36_101, x36_102, x36_105, x36_106, x36_107, x36_110, x36_111, x36_112, x36_115, x36_116, x36_117, x36_120, x36_121, x36_124, x36_125, x36_126, x36_127, x36_128, x36_131, x36_132, x36_133, x36_134, x36_135, x36_138, x36_141, x36_142, x36_143, x36_146, x36_147, x36_148, x36_149, x36_150, x36_153, x36_154, x36_155, x36_158, x36_161, x36_164, x36_165, fcn_0_33, fcn_0_34, fcn_0_37, fcn_0_41, if_true, if_false, eq_self, Int.reduceEq, Int.reduceLT, Int.reduceLE, Int.reduceAdd, Int.reduceSub, Int.reduceMul, Int.reduceToNat, Nat.reduceAdd, Nat.reduceMul, Nat.reduceEqDiff, Int.toNat_natCast, wrap_id, hst, if_neg (show ¬ (k : Int) < K by omega)]
  | cons i its ih =>
    intro k n env sg lo s l2 cv hcv hk hst hR hi hCK hw hcn
    obtain ⟨n', hnn', hI, hR'⟩ := hR
    have hnn : n ≤ n' := by omega
    have hnN := RIs_le its (k + 1) n' hR'
    rw [List.length_cons] at hk
    unfold isw at hw
    have hc1 := cnt_le lo
    have h := ck_step (l2 := l2) hd hM hC (show k < 120 by omega) hnn' (by omega) hI (hi i List.mem_cons_self) hCK (by omega) ⟨K, hst, by omega⟩ ⟨_, hcn, by omega⟩
    unfold ckA cvA
    cases hq : ck1 env sg i with
    | none =>
      rw [hq] at h
      obtain ⟨s', q1, q2⟩ := h
      exact ⟨s', q1, q2.mono (fun _ _ => CF_sub (Nat.le_refl _) hnN)⟩
    | some x =>
      obtain ⟨env', sg', lo'⟩ := x
      rw [hq] at h
      obtain ⟨s', l2', q1, q2, q3, qv, q4⟩ := h
      have hlen := ck1_len hCK.2.1 hCK.2.2.2.1 hq
      rw [q1]
      dsimp only
      rw [← List.append_assoc]
      exact CKR_tr hnn (q4.mono (fun _ _ => CF_sub (Nat.le_refl _) hnN)) (ih (k + 1) n' env' sg' (lo ++ lo') s' l2' (cv ++ cv1 env i) (CVs_app qv cv 0 (CVs_put cv 0 n (CF_AR q4) hcv)) (by omega) (by rw [q4 _ _ (CF_no0 (by decide)), hst]) (RIs_cf q4 its (k + 1) n' (Nat.le_refl _) hR') (fun j hj => hi j (List.mem_cons_of_mem _ hj)) q2 (by rw [List.length_append]; omega) (by rw [q3, hcn, cnt_app]; rfl))
/-- the first loop: nothing is declared -/
theorem ck_clear {d : Nat} : ∀ (m k : Nat) (s : Mem), k + m = 26 → (∀ j, j < k → s 32 j = -1) → ∃ s', Ze d 36 17 [aR 0, aI k, aU] [] s = Ze d 36 38 [aR 0, aI 0, aU] [] s' ∧ (∀ j, j < 26 → s' 32 j = -1) ∧ Fr (fun c _ => c = 32) s s' := by
  intro m
  induction m with
  | zero =>
    intro k s hk h
    refine ⟨s, ?_, fun j hj => h j (by omega), Fr.rf s⟩
    rw [x36_17]
    simp (disch := first | exact obC_0 | omega | (simp only [aN1_25, aN1_26, aN1_29, aN1_32]; omega) | (simp only [List.length_cons, List.length_nil]; omega)) only [en36, x36_0, x36_1, x36_2, x36_5, x36_6, x36_7, x36_10, x36_11, x36_12, x36_15, x36_16, x36_18, x36_20, x36_23, x36_24, x36_27, x36_28, x36_29, x36_30, x36_33, x36_36, x36_37, x36_39, x36_40, x36_43, x36_46, x36_47, x36_48, x36_49, x36_52, x36_53, x36_54, x36_55, x36_58, x36_59, x36_62, x36_63, x36_64, x36_65, x36_68, x36_69, x36_70, x36_73, x36_74, x36_77, x36_78, x36_81, x36_82, x36_83, x36_86, x36_87, x36_88, x36_91, x36_92, x36_95, x36_96, x36_99, x36_100, x36_101, x36_102, x36_105, x36_106, x36_107, x36_110, x36_111, x36_112, x36_115, x36_116, x36_117, x36_120, x36_121, x36_124, x36_125, x36_126, x36_127, x36_128, x36_131, x36_132, x36_133, x36_134, x36_135, x36_138, x36_141, x36_142, x36_143, x36_146, x36_147, x36_148, x36_149, x36_150, x36_153, x36_154, x36_155, x36_158, x36_161, x36_164, x36_165, fcn_0_33, fcn_0_34, fcn_0_37, fcn_0_41, if_true, if_false, eq_self, Int.reduceEq, Int.reduceLT, Int.reduceLE, Int.reduceAdd, Int.reduceSub, Int.reduceMul, Int.reduceToNat, Nat.reduceAdd, Nat.reduceMul, Nat.reduceEqDiff, Int.toNat_natCast, wrap_id, if_neg (show ¬ (k : Int) < 26 by omega)]
  | succ m ih =>
    intro k s hk h
    have hz : Ze d 36 17 [aR 0, aI k, aU] [] s = Ze d 36 17 [aR 0, aI ((k + 1 : Nat) : Int), aU] [] (mu s 32 k (-1)) := by
      rw [show ((k + 1 : Nat) : Int) = (k : Int) + 1 by omega]
      rw [x36_17]
      simp (disch := first | exact obC_0 | omega | (simp only [aN1_25, aN1_26, aN1_29, aN1_32]; omega) | (simp only [List.length_cons, List.length_nil]; omega)) only [en36, x36_0, x36_1, x36_2, x36_5, x36_6, x36_7, x36_10, x36_11, x36_12, x36_15, x36_16, x36_18, x36_20, x36_23, x36_24, x36_27, x36_28, x36_29, x36_30, x36_33, x36_36, x36_37, x36_39, x36_40, x36_43, x36_46, x36_47, x36_48, x36_49, x36_52, x36_53, x36_54, x36_55, x36_58, x36_59, x36_62, x36_63, x36_64, x36_65, x36_68, x36_69, x36_70, x36_73, x36_74, x36_77, x36_78, x36_81, x36_82, x36_83, x36_86, x36_87, x36_88, x36_91, x36_92, x36_95, x36_96, x36_99, x36_100, x36_101, x36_102, x36_105, x36_106, x36_107, x36_110, x36_111, x36_112, x36_115, x36_116, x36_117, x36_120, x36_121, x36_124, x36_125, x36_126, x36_127, x36_128, x36_131, x36_132, x36_133, x36_134, x36_135, x36_138, x36_141, x36_142, x36_143, x36_146, x36_147, x36_148, x36_149, x36_150, x36_153, x36_154, x36_155, x36_158, x36_161, x36_164, x36_165, fcn_0_33, fcn_0_34, fcn_0_37, fcn_0_41, if_true, if_false, eq_self, Int.reduceEq, Int.reduceLT, Int.reduceLE, Int.reduceAdd, Int.reduceSub, Int.reduceMul, Int.reduceToNat, Nat.reduceAdd, Nat.reduceMul, Nat.reduceEqDiff, Int.toNat_natCast, wrap_id, if_pos (show (k : Int) < 26 by omega)]
    obtain ⟨s', q1, q2, q3⟩ := ih (k + 1) (mu s 32 k (-1)) (by omega) (fun j hj => by
      by_cases hjk : j = k
      · subst hjk; exact mu_s
      · rw [mu_i hjk]; exact h j (by omega))
    exact ⟨s', hz.trans q1, q2, Fr.tr (Fr.mu (S := fun c _ => c = 32) (Fr.rf s) rfl) q3⟩
theorem t_check {d N M C : Nat} {its : List It} {s : Mem} (hd : 4 ≤ d) (hM : M ≤ 200) (hC : C ≤ 100) (hN : N ≤ 200) (hK : its.length ≤ 100) (hst : s 0 40 = its.length) (hR : RIs s N M C 0 0 its) (hi : ∀ i, i ∈ its → iOK i) (hw : isw its ≤ 1100) :
    CKR N 0 (cvA (fun _ => none) [] its) s (Zc d 36 [aR 0] s) (ckA (fun _ => none) [] [] its) := by
  obtain ⟨d, rfl⟩ : ∃ e, d = e + 1 := ⟨d - 1, by omega⟩
  generalize hs1 : mu (mu (mu s 0 50 0) 0 57 0) 0 58 0 = s1
  have f1 : Fr (CF 0 N) s s1 := by
    rw [← hs1]
    exact (((Fr.rf s).mu (Or.inl (by decide))).mu (Or.inl (by decide))).mu (Or.inl (by decide))
  obtain ⟨s2, q1, q2, q3⟩ := ck_clear (d := d) 26 0 s1 rfl (fun j hj => by omega)
  have f2 : Fr (CF 0 N) s1 s2 := q3.mono (fun c j z => Or.inr (Or.inl (by subst z; decide)))
  have f12 := f1.tr f2
  have z2 : ∀ {j : Nat}, s2 0 j = s1 0 j := q3 _ _ (show ¬ (0 : Nat) = 32 by decide)
  have hz : Zc (d + 1) 36 [aR 0] s = Ze d 36 38 [aR 0, aI ((0 : Nat) : Int), aU] [] s2 := by
    have z0 : ((0 : Nat) : Int) = 0 := rfl
    rw [z0] at q1 ⊢
    rw [← q1]
    simp (disch := first | exact obC_0 | omega | (simp only [aN1_25, aN1_26, aN1_29, aN1_32]; omega) | (simp only [List.length_cons, List.length_nil]; omega)) only [en36, x36_0, x36_1, x36_2, x36_5, x36_6, x36_7, x36_10, x36_11, x36_12, x36_15, x36_16, x36_18, x36_20, x36_23, x36_24, x36_27, x36_28, x36_29, x36_30, x36_33, x36_36, x36_37, x36_39, x36_40, x36_43, x36_46, x36_47, x36_48, x36_49, x36_52, x36_53, x36_54, x36_55, x36_58, x36_59, x36_62, x36_63, x36_64, x36_65, x36_68, x36_69, x36_70, x36_73, x36_74, x36_77, x36_78, x36_81, x36_82, x36_83, x36_86, x36_87, x36_88, x36_91, x36_92, x36_95, x36_96, x36_99, x36_100, x36_101, x36_102, x36_105, x36_106, x36_107, x36_110, x36_111, x36_112, x36_115, x36_116, x36_117, x36_120, x36_121, x36_124, x36_125, x36_126, x36_127, x36_128, x36_131, x36_132, x36_133, x36_134, x36_135, x36_138, x36_141, x36_142, x36_143, x36_146, x36_147, x36_148, x36_149, x36_150, x36_153, x36_154, x36_155, x36_158, x36_161, x36_164, x36_165, fcn_0_33, fcn_0_34, fcn_0_37, fcn_0_41, if_true, if_false, eq_self, Int.reduceEq, Int.reduceLT, Int.reduceLE, Int.reduceAdd, Int.reduceSub, Int.reduceMul, Int.reduceToNat, Nat.reduceAdd, Nat.reduceMul, Nat.reduceEqDiff, Int.toNat_natCast, wrap_id, hs1]
  rw [hz]
  refine CKR_tr (Nat.le_refl _) f12 (ck_all (K := its.length) (by omega) hM hC hN hK its 0 0 (fun _ => none) [] [] s2 aU [] rfl (Nat.zero_add _) ?_ ?_ hi ⟨?_, ?_, ?_, ?_, ?_, ?_, ?_⟩ (by rw [List.length_nil]; omega) ?_)
  · rw [f12 _ _ (CF_no0 (by decide)), hst]
  · refine RIs_cf (a := 0) (b := 0) (Fr.tr (?_ : Fr (CF 0 0) s s1) (?_ : Fr (CF 0 0) s1 s2)) its 0 0 (Nat.le_refl _) hR
    · rw [← hs1]
      exact (((Fr.rf s).mu (Or.inl (by decide))).mu (Or.inl (by decide))).mu (Or.inl (by decide))
    · exact q3.mono (fun c j z => Or.inr (Or.inl (by subst z; decide)))
  · exact fun d hd => q2 d hd
  · exact fun d t b h => nomatch h
  · rw [z2, ← hs1, mu_i (by decide), mu_i (by decide), mu_s]; rfl
  · exact Nat.zero_le _
  · exact fun i x h => nomatch h
  · rw [z2, ← hs1, mu_i (by decide), mu_s]; rfl
  · exact fun i x h => nomatch h
  · rw [z2, ← hs1, mu_s]; rfl
