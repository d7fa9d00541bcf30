/-! THE CLASS: the two sides of a connection -/
theorem alk_gr {t u : Jvm.Term} (h : alk t u = true) : isGr t = isGr u := by
  unfold alk at h
  split at h
  · rfl
  · rfl
  · rfl
  · rfl
  · rfl
  · cases h
/-- what is connected, whether sinks or not -/
noncomputable def mtc (env : EnvT) : Jvm.Term → Jvm.Term → Option (List Lo)
  | .add (.arg nm) r, e => match lk env nm r with
    | some (to, ty, _) => match e with
      | .add (.arg nm2) r2 => match lk env nm2 r2 with
        | some (fr, ty2, _) => if alk ty ty2 = true then some ((prs ty to fr).map fun p => (0, p.1, .index p.2)) else none
        | none => none
      | _ => if isGr ty = true then (match rE env e with
        | some e' => some [(0, to, e')]
        | none => none) else none
    | none => none
  | _, _ => none
theorem prs_gr {w to fr : Nat} : prs (.arg w) to fr = [(to, fr)] := rfl
theorem isGr_arg {t : Jvm.Term} (h : isGr t = true) : ∃ w, t = .arg w := by
  unfold isGr at h
  split at h
  · exact ⟨_, rfl⟩
  · cases h
theorem cn_mtc {env : EnvT} {sg : List Sg} {l e : Jvm.Term} : cn env sg l e = match mtc env l e with
    | some lo => @ite _ (∀ x, x ∈ lo → skA sg x.2.1) (Classical.propDecidable _) (some lo) none
    | none => none := by
  have key : ∀ (nm : Nat) (r : Jvm.Term), cn env sg (.add (.arg nm) r) e = match mtc env (.add (.arg nm) r) e with
    | some lo => @ite _ (∀ x, x ∈ lo → skA sg x.2.1) (Classical.propDecidable _) (some lo) none
    | none => none := by
    intro nm r
    rw [cn, mtc]
    cases hl : lk env nm r with
    | none => rfl
    | some y =>
      obtain ⟨to, ty, fl⟩ := y
      dsimp only
      by_cases hadd : ∃ nm2 r2, e = .add (.arg nm2) r2
      · obtain ⟨nm2, r2, rfl⟩ := hadd
        dsimp only
        by_cases hg : isGr ty = true
        · obtain ⟨w, rfl⟩ := isGr_arg hg
          rw [if_pos hg]
          unfold cnG
          rw [rE]
          cases hl2 : lk env nm2 r2 with
          | none => rfl
          | some z =>
            obtain ⟨fr, ty2, fl2⟩ := z
            dsimp only
            by_cases hg2 : isGr ty2 = true
            · obtain ⟨w2, rfl⟩ := isGr_arg hg2
              rw [if_pos hg2, if_pos (by simp [alk]), prs_gr]
              dsimp only
              by_cases hs : skA sg to
              · rw [if_pos hs, if_pos (by intro x hx; simp at hx; rw [hx]; exact hs)]
                rfl
              · rw [if_neg hs, if_neg (fun z => hs (z (0, to, .index fr) (by simp)))]
            · rw [if_neg hg2, if_neg (fun z => hg2 (by rw [← alk_gr z]; exact hg))]
        · rw [if_neg hg]
          unfold cnB
          dsimp only
          cases hl2 : lk env nm2 r2 with
          | none => rfl
          | some z =>
            obtain ⟨fr, ty2, fl2⟩ := z
            dsimp only
            by_cases ha : alk ty ty2 = true
            · have hg2 : ¬ isGr ty2 = true := by rw [← alk_gr ha]; exact hg
              rw [if_neg hg2, if_pos ha, if_pos ha]
              dsimp only
              by_cases hs : ∀ p, p ∈ prs ty to fr → skA sg p.1
              · rw [if_pos hs, if_pos]
                intro x hx
                obtain ⟨p, hp, rfl⟩ := List.mem_map.mp hx
                exact hs p hp
              · rw [if_neg hs, if_neg]
                exact fun z => hs (fun p hp => z _ (List.mem_map.mpr ⟨p, hp, rfl⟩))
            · rw [if_neg ha, if_neg ha]
              split <;> rfl
      · have hm : (match (generalizing := false) e with
          | .add (.arg nm2) r2 => (match lk env nm2 r2 with
            | some (fr, ty2, _) => if alk ty ty2 = true then some ((prs ty to fr).map fun p => ((0, p.1, .index p.2) : Lo)) else none
            | none => none)
          | _ => if isGr ty = true then (match rE env e with
            | some e' => some [((0, to, e') : Lo)]
            | none => none) else none) = if isGr ty = true then (match rE env e with
            | some e' => some [((0, to, e') : Lo)]
            | none => none) else none := by
          split
          next nm2 r2 => exact absurd ⟨nm2, r2, rfl⟩ hadd
          next => rfl
        rw [hm]
        by_cases hg : isGr ty = true
        · rw [if_pos hg, if_pos hg]
          unfold cnG
          cases rE env e with
          | none => rfl
          | some e' =>
            dsimp only
            by_cases hs : skA sg to
            · rw [if_pos hs, if_pos (by intro x hx; simp at hx; rw [hx]; exact hs)]
            · rw [if_neg hs, if_neg (fun z => hs (z (0, to, e') (by simp)))]
        · rw [if_neg hg, if_neg hg]
          unfold cnB
          split
          next nm2 r2 => exact absurd ⟨nm2, r2, rfl⟩ hadd
          next => rfl
  by_cases hl : ∃ nm r, l = .add (.arg nm) r
  · obtain ⟨nm, r, rfl⟩ := hl
    exact key nm r
  · have h1 : cn env sg l e = none := by
      unfold cn
      split
      next nm r => exact absurd ⟨nm, r, rfl⟩ hl
      next => rfl
    have h2 : mtc env l e = none := by
      unfold mtc
      split
      next nm r => exact absurd ⟨nm, r, rfl⟩ hl
      next => rfl
    rw [h1, h2]
/-- between two steps of the check -/
def KCc (s : Mem) (o U C : Nat) (env : EnvT) (sg : List Sg) : Prop := EC s U C env ∧ eOK env sg.length ∧ (∀ d t b, env d = some (t, b) → dpt t ≤ 2 ∧ ∀ j, j < tsz t → ∃ x, sg[b + j]? = some x ∧ x.2.2.1 = (lf t j 0).2 % 2) ∧ s (59 + o) 6 = sg.length ∧ sg.length ≤ 24 ∧ (∀ i x, sg[i]? = some x → SGc s o i (x.1, x.2.1, x.2.2.1, x.2.2.2.1)) ∧ CHS s o ∧ s 114 4 = U ∧ s 114 10 = C ∧ U ≤ 201 ∧ C ≤ 200
theorem KCc_LUF {s s' : Mem} {o U C a b : Nat} {env : EnvT} {sg : List Sg} (h : KCc s o U C env sg) (f : Fr (LUF o a b) s s') : KCc s' o U C env sg := by
  obtain ⟨h1, h2, h3, h4, h5, h6, h7, h8, h9, h10, h11⟩ := h
  have ho := h7.2.2
  exact ⟨LUF_EC ho h1 f, h2, h3, by rw [f _ _ (by unfold LUF; omega), h4], h5, fun i x hx => SGc_put (h6 i x hx) (fun k _ hk => f _ _ (by unfold LUF; omega)), LUF_CHS h7 f, by rw [f _ _ (by unfold LUF; omega), h8], by rw [f _ _ (by unfold LUF; omega), h9], h10, h11⟩
/-- the ~ of a signal that a name and a path lead to -/
theorem lk_flip {s : Mem} {o U C nm to fl q M : Nat} {env : EnvT} {sg : List Sg} {r ty : Jvm.Term} (h : KCc s o U C env sg) (hl : lk env nm r = some (to, ty, fl)) (hT : CT s true ty q M 0 C 0) : to + tsz ty ≤ sg.length ∧ dpt ty ≤ 2 ∧ ∀ j, j < tsz ty → s (63 + o) (to + j) = (((lf ty j 0).2 + fl) % 2 : Nat) := by
  obtain ⟨h1, h2, h3, h4, h5, h6, h7, h8⟩ := h
  refine ⟨(lk_ok h2 hl).1, ?_, fun j hj => ?_⟩
  · unfold lk at hl
    cases he : env nm with
    | none => rw [he] at hl; cases hl
    | some tb =>
      obtain ⟨t, b⟩ := tb
      rw [he] at hl
      have := (rsv_ok hl).2
      have := (h3 nm t b he).1
      omega
  · unfold lk at hl
    cases he : env nm with
    | none => rw [he] at hl; cases hl
    | some tb =>
      obtain ⟨t, b⟩ := tb
      rw [he] at hl
      have hok := (rsv_ok hl).1
      obtain ⟨r1, r2, r3⟩ := rsv_lf hl
      have e1 := r3 j 0 hj
      rw [Nat.zero_add, Nat.sub_zero] at e1
      obtain ⟨x, x1, x2⟩ := (h3 nm t b he).2 (to - b + j) (by omega)
      rw [show b + (to - b + j) = to + j by omega] at x1
      have e2 := (h6 _ x x1).2.2.1
      rw [e2]
      show ((x.2.2.1 : Nat) : Int) = _
      rw [x2, e1]
      have e3 := lf_sh hT j hj 0 fl
      rw [Nat.zero_add] at e3
      rw [e3]
theorem CE_root {s : Mem} {o P : Nat} {e : Jvm.Term} {n : Nat} : CE s o P e n → (∃ nm r, e = .add (.arg nm) r) ∨ (¬ s (67 + o) (n + esz e - 1) = 4 ∧ ¬ s (67 + o) (n + esz e - 1) = 5 ∧ ∀ nm r, e ≠ .add (.arg nm) r) := by
  fun_cases CE s o P e n with
  | case1 a =>
    rintro ⟨h1, -⟩
    refine Or.inr ?_
    simp only [esz]
    rw [show n + (1 + esz a) - 1 = n + esz a by omega, h1]
    exact ⟨by decide, by decide, fun _ _ z => nomatch z⟩
  | case2 h l a =>
    rintro ⟨h1, -⟩
    refine Or.inr ?_
    simp only [esz]
    rw [show n + (1 + esz a) - 1 = n + esz a by omega, h1]
    exact ⟨by decide, by decide, fun _ _ z => nomatch z⟩
  | case3 c a b =>
    rintro ⟨h1, h2, -⟩
    refine Or.inr ?_
    simp only [esz]
    rw [show n + (1 + esz a + esz b) - 1 = n + esz a + esz b by omega, h1]
    unfold two at h2
    exact ⟨by omega, by omega, fun _ _ z => nomatch z⟩
  | case4 c a b =>
    rintro ⟨h1, -⟩
    refine Or.inr ?_
    simp only [esz]
    rw [show n + (1 + esz c + esz a + esz b) - 1 = n + esz c + esz a + esz b by omega, h1]
    exact ⟨by decide, by decide, fun _ _ z => nomatch z⟩
  | case5 nm r => exact fun _ => Or.inl ⟨nm, r, rfl⟩
  | case6 v =>
    rintro ⟨h1, -⟩
    refine Or.inr ?_
    show ¬ s (67 + o) n = 4 ∧ ¬ s (67 + o) n = 5 ∧ _
    rw [h1]
    exact ⟨by decide, by decide, fun _ _ z => nomatch z⟩
  | case7 => exact fun h => h.elim
theorem prsm_get {ty : Jvm.Term} {to fr i : Nat} {x : Lo} (h : ((prs ty to fr).map fun p => ((0, p.1, .index p.2) : Lo))[i]? = some x) : i < tsz ty ∧ x = (if (lf ty i 0).2 % 2 = 1 then (0, fr + i, .index (to + i)) else (0, to + i, .index (fr + i))) := by
  unfold prs at h
  rw [List.map_map] at h
  have hi : i < tsz ty := by
    have := (List.getElem?_eq_some_iff.mp h).1
    rwa [List.length_map, List.length_range] at this
  rw [List.getElem?_map, List.getElem?_range hi] at h
  injection h with h
  refine ⟨hi, ?_⟩
  rw [← h]
  dsimp only [Function.comp]
  split <;> rfl
theorem prsm_len {ty : Jvm.Term} {to fr : Nat} : ((prs ty to fr).map fun p => ((0, p.1, .index p.2) : Lo)).length = tsz ty := by unfold prs; rw [List.length_map, List.length_map, List.length_range]
theorem mt_F1 {d o : Nat} {a b : Int} {s : Mem} (hd : 1 ≤ d) (ho : o = 0 ∨ o = 26) (e1 : Zc d 89 [aR 133, aI a] s = rI 0 s) : Zc (d + 1) 87 [aR 133, aI a, aI b] s = rI 0 s := by
  simp (disch := first | exact obC_114 | exact obC_133 | exact (obCO_66 ho) | omega | (simp only [(aN1O_67 ho), (aN1O_69 ho)]; omega) | (simp only [List.length_cons, List.length_nil]; omega)) only [en87, x87_0, x87_1, x87_2, x87_5, x87_8, x87_9, x87_10, x87_11, x87_14, x87_17, x87_18, x87_19, x87_20, x87_23, x87_24, x87_25, x87_28, x87_31, x87_32, x87_33, x87_36, x87_39, x87_40, x87_43, x87_44, x87_45, x87_46, x87_47, x87_50, x87_53, x87_54, x87_57, x87_58, x87_61, x87_64, x87_65, x87_66, x87_67, x87_70, x87_73, x87_74, x87_75, x87_78, x87_81, x87_82, x87_85, x87_86, fcn_133_0, (fcnO_66_0 ho), (fcnO_66_2 ho), if_true, if_false, eq_self, Int.reduceEq, Int.reduceLT, Int.reduceLE, Int.reduceAdd, Int.reduceSub, Int.reduceMul, Int.reduceToNat, Nat.reduceAdd, Nat.reduceMul, Nat.reduceEqDiff, Int.toNat_natCast, wrap_id, e1, zcI_r]
theorem mt_ref {d o a b q q2 : Nat} {v1 v2 : Int} {s s1 s2 : Mem} (hCH1 : CHS s1 o) (hCH2 : CHS s2 o) (ha : a < 225) (hb : b < 225) (e1 : Zc d 89 [aR 133, aI a] s = rI 1 s1) (h4 : s1 (67 + o) b = 4) (e2 : Zc d 89 [aR 133, aI b] s1 = rI v1 s2) (hv1 : v1 = 0 ∨ v1 = 1) (hq : s2 (69 + o) a = q) (hq2 : s2 (69 + o) b = q2) (e3 : v1 = 1 → Zc d 168 [aR 114, aI q, aI q2] s2 = rI v2 s2) (hv2 : v2 = 0 ∨ v2 = 1) : Zc (d + 1) 87 [aR 133, aI a, aI b] s = rI (if v1 = 1 then v2 else 0) s2 := by
  obtain ⟨-, c2, ho⟩ := hCH1
  obtain ⟨-, c3, -⟩ := hCH2
  rcases hv1 with rfl | rfl
  · rw [if_neg (by decide)]
    simp (disch := first | exact obC_114 | exact obC_133 | exact (obCO_66 ho) | omega | (simp only [(aN1O_67 ho), (aN1O_69 ho)]; omega) | (simp only [List.length_cons, List.length_nil]; omega)) only [en87, x87_0, x87_1, x87_2, x87_5, x87_8, x87_9, x87_10, x87_11, x87_14, x87_17, x87_18, x87_19, x87_20, x87_23, x87_24, x87_25, x87_28, x87_31, x87_32, x87_33, x87_36, x87_39, x87_40, x87_43, x87_44, x87_45, x87_46, x87_47, x87_50, x87_53, x87_54, x87_57, x87_58, x87_61, x87_64, x87_65, x87_66, x87_67, x87_70, x87_73, x87_74, x87_75, x87_78, x87_81, x87_82, x87_85, x87_86, fcn_133_0, (fcnO_66_0 ho), (fcnO_66_2 ho), if_true, if_false, eq_self, Int.reduceEq, Int.reduceLT, Int.reduceLE, Int.reduceAdd, Int.reduceSub, Int.reduceMul, Int.reduceToNat, Nat.reduceAdd, Nat.reduceMul, Nat.reduceEqDiff, Int.toNat_natCast, wrap_id, e1, zcI_r, c2, h4, e2, if_neg (show ¬ (1 : Int) = 0 by decide)]
  · rw [if_pos rfl]
    have e3' := e3 rfl
    rcases hv2 with rfl | rfl
    · simp (disch := first | exact obC_114 | exact obC_133 | exact (obCO_66 ho) | omega | (simp only [(aN1O_67 ho), (aN1O_69 ho)]; omega) | (simp only [List.length_cons, List.length_nil]; omega)) only [en87, x87_0, x87_1, x87_2, x87_5, x87_8, x87_9, x87_10, x87_11, x87_14, x87_17, x87_18, x87_19, x87_20, x87_23, x87_24, x87_25, x87_28, x87_31, x87_32, x87_33, x87_36, x87_39, x87_40, x87_43, x87_44, x87_45, x87_46, x87_47, x87_50, x87_53, x87_54, x87_57, x87_58, x87_61, x87_64, x87_65, x87_66, x87_67, x87_70, x87_73, x87_74, x87_75, x87_78, x87_81, x87_82, x87_85, x87_86, fcn_133_0, (fcnO_66_0 ho), (fcnO_66_2 ho), if_true, if_false, eq_self, Int.reduceEq, Int.reduceLT, Int.reduceLE, Int.reduceAdd, Int.reduceSub, Int.reduceMul, Int.reduceToNat, Nat.reduceAdd, Nat.reduceMul, Nat.reduceEqDiff, Int.toNat_natCast, wrap_id, e1, zcI_r, c2, h4, e2, if_neg (show ¬ (1 : Int) = 0 by decide), c3, hq, hq2, e3']
    · simp (disch := first | exact obC_114 | exact obC_133 | exact (obCO_66 ho) | omega | (simp only [(aN1O_67 ho), (aN1O_69 ho)]; omega) | (simp only [List.length_cons, List.length_nil]; omega)) only [en87, x87_0, x87_1, x87_2, x87_5, x87_8, x87_9, x87_10, x87_11, x87_14, x87_17, x87_18, x87_19, x87_20, x87_23, x87_24, x87_25, x87_28, x87_31, x87_32, x87_33, x87_36, x87_39, x87_40, x87_43, x87_44, x87_45, x87_46, x87_47, x87_50, x87_53, x87_54, x87_57, x87_58, x87_61, x87_64, x87_65, x87_66, x87_67, x87_70, x87_73, x87_74, x87_75, x87_78, x87_81, x87_82, x87_85, x87_86, fcn_133_0, (fcnO_66_0 ho), (fcnO_66_2 ho), if_true, if_false, eq_self, Int.reduceEq, Int.reduceLT, Int.reduceLE, Int.reduceAdd, Int.reduceSub, Int.reduceMul, Int.reduceToNat, Nat.reduceAdd, Nat.reduceMul, Nat.reduceEqDiff, Int.toNat_natCast, wrap_id, e1, zcI_r, c2, h4, e2, if_neg (show ¬ (1 : Int) = 0 by decide), c3, hq, hq2, e3']
theorem mt_expr {d o a b : Nat} {v1 v2 op : Int} {s s1 s2 : Mem} (hCH1 : CHS s1 o) (ha : a < 225) (hb : b < 225) (e1 : Zc d 89 [aR 133, aI a] s = rI 1 s1) (h4 : s1 (67 + o) b = op) (hop : ¬ op = 4) (e2 : Zc d 86 [aR 133, aI a] s1 = rI v1 s1) (hv1 : v1 = 0 ∨ v1 = 1) (e3 : v1 = 1 → Zc d 85 [aR 133, aI b] s1 = rI v2 s2) (e3' : v1 = 0 → s2 = s1) (hv2 : v2 = 0 ∨ v2 = 1) : Zc (d + 1) 87 [aR 133, aI a, aI b] s = rI (if v1 = 1 then v2 else 0) s2 := by
  obtain ⟨-, c2, ho⟩ := hCH1
  rcases hv1 with rfl | rfl
  · rw [if_neg (by decide), e3' rfl]
    simp (disch := first | exact obC_114 | exact obC_133 | exact (obCO_66 ho) | omega | (simp only [(aN1O_67 ho), (aN1O_69 ho)]; omega) | (simp only [List.length_cons, List.length_nil]; omega)) only [en87, x87_0, x87_1, x87_2, x87_5, x87_8, x87_9, x87_10, x87_11, x87_14, x87_17, x87_18, x87_19, x87_20, x87_23, x87_24, x87_25, x87_28, x87_31, x87_32, x87_33, x87_36, x87_39, x87_40, x87_43, x87_44, x87_45, x87_46, x87_47, x87_50, x87_53, x87_54, x87_57, x87_58, x87_61, x87_64, x87_65, x87_66, x87_67, x87_70, x87_73, x87_74, x87_75, x87_78, x87_81, x87_82, x87_85, x87_86, fcn_133_0, (fcnO_66_0 ho), (fcnO_66_2 ho), if_true, if_false, eq_self, Int.reduceEq, Int.reduceLT, Int.reduceLE, Int.reduceAdd, Int.reduceSub, Int.reduceMul, Int.reduceToNat, Nat.reduceAdd, Nat.reduceMul, Nat.reduceEqDiff, Int.toNat_natCast, wrap_id, e1, zcI_r, c2, h4, if_neg hop, e2, if_neg (show ¬ (1 : Int) = 0 by decide)]
  · rw [if_pos rfl]
    have e3'' := e3 rfl
    rcases hv2 with rfl | rfl
    · simp (disch := first | exact obC_114 | exact obC_133 | exact (obCO_66 ho) | omega | (simp only [(aN1O_67 ho), (aN1O_69 ho)]; omega) | (simp only [List.length_cons, List.length_nil]; omega)) only [en87, x87_0, x87_1, x87_2, x87_5, x87_8, x87_9, x87_10, x87_11, x87_14, x87_17, x87_18, x87_19, x87_20, x87_23, x87_24, x87_25, x87_28, x87_31, x87_32, x87_33, x87_36, x87_39, x87_40, x87_43, x87_44, x87_45, x87_46, x87_47, x87_50, x87_53, x87_54, x87_57, x87_58, x87_61, x87_64, x87_65, x87_66, x87_67, x87_70, x87_73, x87_74, x87_75, x87_78, x87_81, x87_82, x87_85, x87_86, fcn_133_0, (fcnO_66_0 ho), (fcnO_66_2 ho), if_true, if_false, eq_self, Int.reduceEq, Int.reduceLT, Int.reduceLE, Int.reduceAdd, Int.reduceSub, Int.reduceMul, Int.reduceToNat, Nat.reduceAdd, Nat.reduceMul, Nat.reduceEqDiff, Int.toNat_natCast, wrap_id, e1, zcI_r, c2, h4, if_neg hop, e2, if_neg (show ¬ (1 : Int) = 0 by decide), e3'']
    · simp (disch := first | exact obC_114 | exact obC_133 | exact (obCO_66 ho) | omega | (simp only [(aN1O_67 ho), (aN1O_69 ho)]; omega) | (simp only [List.length_cons, List.length_nil]; omega)) only [en87, x87_0, x87_1, x87_2, x87_5, x87_8, x87_9, x87_10, x87_11, x87_14, x87_17, x87_18, x87_19, x87_20, x87_23, x87_24, x87_25, x87_28, x87_31, x87_32, x87_33, x87_36, x87_39, x87_40, x87_43, x87_44, x87_45, x87_46, x87_47, x87_50, x87_53, x87_54, x87_57, x87_58, x87_61, x87_64, x87_65, x87_66, x87_67, x87_70, x87_73, x87_74, x87_75, x87_78, x87_81, x87_82, x87_85, x87_86, fcn_133_0, (fcnO_66_0 ho), (fcnO_66_2 ho), if_true, if_false, eq_self, Int.reduceEq, Int.reduceLT, Int.reduceLE, Int.reduceAdd, Int.reduceSub, Int.reduceMul, Int.reduceToNat, Nat.reduceAdd, Nat.reduceMul, Nat.reduceEqDiff, Int.toNat_natCast, wrap_id, e1, zcI_r, c2, h4, if_neg hop, e2, if_neg (show ¬ (1 : Int) = 0 by decide), e3'']
