/-! THE CLASS: a name is looked up -/
theorem CT_inv' {s : Mem} {b c e off : Nat} {t : Jvm.Term} {n : Int} (h : CT s true t n b c e off) :
    (∃ w, t = .arg w ∧ 0 ≤ n ∧ n < b ∧ s 115 n.toNat = 0 ∧ s 116 n.toNat = (w : Nat) ∧ s 118 n.toNat = 1 ∧ w ≤ 16) ∨
    (∃ k t', t = .mul (.arg k) t' ∧ 0 ≤ n ∧ n < b ∧ s 115 n.toNat = 2 ∧ s 117 n.toNat = (k : Nat) ∧ s 118 n.toNat = ((min 25 (k * tsz t') : Nat) : Int) ∧ (1 ≤ k ∧ k ≤ 4) ∧ CT s true t' (s 116 n.toNat) n.toNat c e 0) ∨
    (∃ fs, t = .sum fs ∧ 0 ≤ n ∧ n < b ∧ s 115 n.toNat = 1 ∧ s 118 n.toNat = ((min 25 (tsz fs) : Nat) : Int) ∧ 1 ≤ tsz fs ∧ CT s false fs (s 116 n.toNat) n.toNat c e 0) := by
  generalize hy : true = y at h
  revert h
  fun_cases CT s y t n b c e off with
  | case1 w n => exact fun h => Or.inl ⟨w, rfl, h⟩
  | case2 k t n => exact fun h => Or.inr (Or.inl ⟨k, t, rfl, h⟩)
  | case3 fs n => exact fun h => Or.inr (Or.inr ⟨fs, rfl, h⟩)
  | case4 => exact (nomatch hy)
  | case5 => exact (nomatch hy)
  | case6 => intro h; exact h.elim
theorem CT_inv {s : Mem} {b c e off n : Nat} {t : Jvm.Term} (h : CT s true t n b c e off) :
    (∃ w, t = .arg w ∧ n < b ∧ s 115 n = 0 ∧ s 116 n = (w : Nat) ∧ s 118 n = 1 ∧ w ≤ 16) ∨
    (∃ k t' q, t = .mul (.arg k) t' ∧ n < b ∧ s 115 n = 2 ∧ s 117 n = (k : Nat) ∧ s 118 n = ((min 25 (k * tsz t') : Nat) : Int) ∧ (1 ≤ k ∧ k ≤ 4) ∧ s 116 n = (q : Nat) ∧ CT s true t' q n c e 0) ∨
    (∃ fs, t = .sum fs ∧ n < b ∧ s 115 n = 1 ∧ s 118 n = ((min 25 (tsz fs) : Nat) : Int) ∧ 1 ≤ tsz fs ∧ CT s false fs (s 116 n) n c e 0) := by
  rcases CT_inv' h with ⟨w, h1, h2, h3, h4⟩ | ⟨k, t', h1, h2, h3, h4, h5, h6, h7, h8⟩ | ⟨fs, h1, h2, h3, h4⟩
  · rw [Int.toNat_natCast] at h4
    exact Or.inl ⟨w, h1, by omega, h4⟩
  · rw [Int.toNat_natCast] at h4 h5 h6 h8
    obtain ⟨z1, -⟩ := CT_size h8 rfl
    obtain ⟨q, hq⟩ : ∃ q : Nat, s 116 n = q := ⟨(s 116 n).toNat, by omega⟩
    rw [hq] at h8
    exact Or.inr (Or.inl ⟨k, t', q, h1, by omega, h4, h5, h6, h7, hq, h8⟩)
  · rw [Int.toNat_natCast] at h4
    exact Or.inr (Or.inr ⟨fs, h1, by omega, h4⟩)
theorem CT_inf {s : Mem} {b c e off : Nat} {t : Jvm.Term} {f : Int} (h : CT s false t f b c e off) :
    (t = .null ∧ f = -1) ∨
    (∃ (nm bk g q : Nat) (t' r : Jvm.Term), t = .div (.sub (.arg nm) (.arg bk)) (.rem t' r) ∧ f = g ∧ c ≤ g ∧ g < e ∧ s 119 g = nm ∧ s 120 g = bk ∧ (nm < 26 ∧ bk ≤ 1) ∧ s 122 g = off ∧ s 121 g = q ∧ CT s true t' q b c g 0 ∧ CT s false r (s 123 g) b (g + 1) e (off + min 25 (tsz t'))) := by
  generalize hy : false = y at h
  revert h
  fun_cases CT s y t f b c e off with
  | case1 w n => exact (nomatch hy)
  | case2 k t n => exact (nomatch hy)
  | case3 fs n => exact (nomatch hy)
  | case4 nm bk t r =>
    rintro ⟨h1, h2, h3, h4, h5, h6, h7, h8⟩
    obtain ⟨g, rfl⟩ : ∃ g : Nat, f = g := ⟨f.toNat, by omega⟩
    rw [Int.toNat_natCast] at *
    obtain ⟨z1, -⟩ := CT_size h7 rfl
    obtain ⟨q, hq⟩ : ∃ q : Nat, s 121 g = q := ⟨(s 121 g).toNat, by omega⟩
    rw [hq] at h7
    exact Or.inr ⟨nm, bk, g, q, t, r, rfl, rfl, by omega, by omega, h3, h4, h5, h6, hq, h7, h8⟩
  | case5 n => exact fun h => Or.inl ⟨rfl, h⟩
  | case6 => intro h; exact h.elim
theorem fo_loop {d C b : Nat} {ty nm : Nat} (hC : C ≤ 200) (hb : b ≤ 201) : ∀ (m : Nat) (fs : Jvm.Term) (f : Int) (c e off i : Nat) (s : Mem), tnz fs ≤ m → CT s false fs f b c e off → e ≤ C → i ≤ c → s 114 10 = C → tsz fs ≤ 24 →
    match fnd nm fs with
    | some (o', bk, t') => ∃ g q : Nat, Ze d 167 22 [aR 114, aI ty, aI nm, aI f, aI i] [] s = rI g s ∧ g < C ∧ s 120 g = bk ∧ bk ≤ 1 ∧ s 122 g = ((off + o' : Nat) : Int) ∧ s 121 g = q ∧ CT s true t' q b 0 C 0
    | none => Ze d 167 22 [aR 114, aI ty, aI nm, aI f, aI i] [] s = rI (-1) s := by
  intro m
  induction m with
  | zero =>
    intro fs f c e off i s hm
    have : 1 ≤ tnz fs := by unfold tnz; split <;> omega
    omega
  | succ m ih =>
    intro fs f c e off i s hm h he hi hf hz
    rw [x167_22]
    rcases CT_inf h with ⟨rfl, rfl⟩ | ⟨nm', bk, g, q, t, r, rfl, rfl, h1, h2, h3, h4, h5, h6, hq, h7, h8⟩
    rotate_left
    · obtain ⟨z1, z2, z3, z4⟩ := CT_size h7 rfl
      simp only [tsz] at hz
      rw [fnd]
      by_cases hn : nm' = nm
      · rw [if_pos hn]
        refine ⟨g, q, ?_, by omega, h4, h5.2, by rw [h6, Nat.add_zero], hq, ?_⟩
        · rw [hn] at h3
          simp (disch := first | exact obC_114 | omega | (simp only [aN1_115, aN1_116, aN1_119, aN1_123]; omega) | (simp only [List.length_cons, List.length_nil]; omega)) only [en167, x167_0, x167_1, x167_4, x167_5, x167_6, x167_7, x167_10, x167_11, x167_12, x167_13, x167_16, x167_17, x167_18, x167_19, x167_20, x167_24, x167_25, x167_28, x167_31, x167_32, x167_33, x167_36, x167_37, x167_40, x167_41, x167_42, x167_43, x167_46, x167_47, x167_48, x167_49, x167_52, x167_53, x167_54, x167_55, x167_58, x167_61, x167_62, fcn_114_0, fcn_114_1, fcn_114_5, fcn_114_9, if_true, if_false, eq_self, Int.reduceEq, Int.reduceLT, Int.reduceLE, Int.reduceAdd, Int.reduceSub, Int.reduceMul, Int.reduceToNat, Nat.reduceAdd, Nat.reduceMul, Nat.reduceEqDiff, Int.toNat_natCast, wrap_id, hf, if_pos (show (i : Int) < C by omega), if_neg (show ¬ (g : Int) = -1 by omega), h3]
        · exact CT_wide h7 (Nat.le_refl _) (Nat.zero_le _) (by omega)
      · rw [if_neg hn]
        have e0 : Ze d 167 24 [aR 114, aI ty, aI nm, aI g, aI i] [aI i] s = Ze d 167 22 [aR 114, aI ty, aI nm, aI (s 123 g), aI ((i + 1 : Nat) : Int)] [] s := by
          rw [show ((i + 1 : Nat) : Int) = (i : Int) + 1 from rfl]
          simp (disch := first | exact obC_114 | omega | (simp only [aN1_115, aN1_116, aN1_119, aN1_123]; omega) | (simp only [List.length_cons, List.length_nil]; omega)) only [en167, x167_0, x167_1, x167_4, x167_5, x167_6, x167_7, x167_10, x167_11, x167_12, x167_13, x167_16, x167_17, x167_18, x167_19, x167_20, x167_24, x167_25, x167_28, x167_31, x167_32, x167_33, x167_36, x167_37, x167_40, x167_41, x167_42, x167_43, x167_46, x167_47, x167_48, x167_49, x167_52, x167_53, x167_54, x167_55, x167_58, x167_61, x167_62, fcn_114_0, fcn_114_1, fcn_114_5, fcn_114_9, if_true, if_false, eq_self, Int.reduceEq, Int.reduceLT, Int.reduceLE, Int.reduceAdd, Int.reduceSub, Int.reduceMul, Int.reduceToNat, Nat.reduceAdd, Nat.reduceMul, Nat.reduceEqDiff, Int.toNat_natCast, wrap_id, hf, if_pos (show (i : Int) < C by omega), if_neg (show ¬ (g : Int) = -1 by omega), h3, if_neg (show ¬ ((nm' : Nat) : Int) = nm by omega)]
        rw [e0]
        have hI := ih r (s 123 g) (g + 1) e (off + min 25 (tsz t)) (i + 1) s (by simp only [tnz] at hm; omega) h8 he (by omega) hf (by omega)
        cases hx : fnd nm r with
        | none =>
          rw [hx] at hI
          exact hI
        | some y =>
          obtain ⟨o', b', t'⟩ := y
          rw [hx] at hI
          obtain ⟨g', q', i1, i2, i3, i4, i5, i6, i7⟩ := hI
          exact ⟨g', q', i1, i2, i3, i4, by rw [i5, show off + min 25 (tsz t) + o' = off + (tsz t + o') by omega], i6, i7⟩
    · show _ = rI (-1) s
      by_cases hiC : (i : Int) < C
      · simp (disch := first | exact obC_114 | omega | (simp only [aN1_115, aN1_116, aN1_119, aN1_123]; omega) | (simp only [List.length_cons, List.length_nil]; omega)) only [en167, x167_0, x167_1, x167_4, x167_5, x167_6, x167_7, x167_10, x167_11, x167_12, x167_13, x167_16, x167_17, x167_18, x167_19, x167_20, x167_24, x167_25, x167_28, x167_31, x167_32, x167_33, x167_36, x167_37, x167_40, x167_41, x167_42, x167_43, x167_46, x167_47, x167_48, x167_49, x167_52, x167_53, x167_54, x167_55, x167_58, x167_61, x167_62, fcn_114_0, fcn_114_1, fcn_114_5, fcn_114_9, if_true, if_false, eq_self, Int.reduceEq, Int.reduceLT, Int.reduceLE, Int.reduceAdd, Int.reduceSub, Int.reduceMul, Int.reduceToNat, Nat.reduceAdd, Nat.reduceMul, Nat.reduceEqDiff, Int.toNat_natCast, wrap_id, hf, if_pos hiC]
      · simp (disch := first | exact obC_114 | omega | (simp only [aN1_115, aN1_116, aN1_119, aN1_123]; omega) | (simp only [List.length_cons, List.length_nil]; omega)) only [en167, x167_0, x167_1, x167_4, x167_5, x167_6, x167_7, x167_10, x167_11, x167_12, x167_13, x167_16, x167_17, x167_18, x167_19, x167_20, x167_24, x167_25, x167_28, x167_31, x167_32, x167_33, x167_36, x167_37, x167_40, x167_41, x167_42, x167_43, x167_46, x167_47, x167_48, x167_49, x167_52, x167_53, x167_54, x167_55, x167_58, x167_61, x167_62, fcn_114_0, fcn_114_1, fcn_114_5, fcn_114_9, if_true, if_false, eq_self, Int.reduceEq, Int.reduceLT, Int.reduceLE, Int.reduceAdd, Int.reduceSub, Int.reduceMul, Int.reduceToNat, Nat.reduceAdd, Nat.reduceMul, Nat.reduceEqDiff, Int.toNat_natCast, wrap_id, hf, if_neg hiC]
def fdo (nm : Nat) (t : Jvm.Term) : Option (Nat × Nat × Jvm.Term) := match t with
  | .sum fs => fnd nm fs
  | _ => none
theorem k_fieldOf {d C b n nm : Nat} {t : Jvm.Term} {s : Mem} (hd : 1 ≤ d) (hC : C ≤ 200) (hb : b ≤ 201) (h : CT s true t n b 0 C 0) (hf : s 114 10 = C) (hz : tsz t ≤ 24) :
    match fdo nm t with
    | some (o', bk, t') => ∃ g q : Nat, Zc d 167 [aR 114, aI n, aI nm] s = rI g s ∧ g < C ∧ s 120 g = bk ∧ bk ≤ 1 ∧ s 122 g = (o' : Int) ∧ s 121 g = q ∧ CT s true t' q b 0 C 0
    | none => Zc d 167 [aR 114, aI n, aI nm] s = rI (-1) s := by
  obtain ⟨d, rfl⟩ : ∃ e, d = e + 1 := ⟨d - 1, by omega⟩
  rcases CT_inv h with ⟨w, rfl, h2, h3, h4, h5, h6⟩ | ⟨k, t, q, rfl, h2, h3, h4, h5, h6, hq, h7⟩ | ⟨fs, rfl, h2, h3, h5, h6, h7⟩
  · show _ = rI (-1) s
    simp (disch := first | exact obC_114 | omega | (simp only [aN1_115, aN1_116, aN1_119, aN1_123]; omega) | (simp only [List.length_cons, List.length_nil]; omega)) only [en167, x167_0, x167_1, x167_4, x167_5, x167_6, x167_7, x167_10, x167_11, x167_12, x167_13, x167_16, x167_17, x167_18, x167_19, x167_20, x167_24, x167_25, x167_28, x167_31, x167_32, x167_33, x167_36, x167_37, x167_40, x167_41, x167_42, x167_43, x167_46, x167_47, x167_48, x167_49, x167_52, x167_53, x167_54, x167_55, x167_58, x167_61, x167_62, fcn_114_0, fcn_114_1, fcn_114_5, fcn_114_9, if_true, if_false, eq_self, Int.reduceEq, Int.reduceLT, Int.reduceLE, Int.reduceAdd, Int.reduceSub, Int.reduceMul, Int.reduceToNat, Nat.reduceAdd, Nat.reduceMul, Nat.reduceEqDiff, Int.toNat_natCast, wrap_id, h3]
  · show _ = rI (-1) s
    simp (disch := first | exact obC_114 | omega | (simp only [aN1_115, aN1_116, aN1_119, aN1_123]; omega) | (simp only [List.length_cons, List.length_nil]; omega)) only [en167, x167_0, x167_1, x167_4, x167_5, x167_6, x167_7, x167_10, x167_11, x167_12, x167_13, x167_16, x167_17, x167_18, x167_19, x167_20, x167_24, x167_25, x167_28, x167_31, x167_32, x167_33, x167_36, x167_37, x167_40, x167_41, x167_42, x167_43, x167_46, x167_47, x167_48, x167_49, x167_52, x167_53, x167_54, x167_55, x167_58, x167_61, x167_62, fcn_114_0, fcn_114_1, fcn_114_5, fcn_114_9, if_true, if_false, eq_self, Int.reduceEq, Int.reduceLT, Int.reduceLE, Int.reduceAdd, Int.reduceSub, Int.reduceMul, Int.reduceToNat, Nat.reduceAdd, Nat.reduceMul, Nat.reduceEqDiff, Int.toNat_natCast, wrap_id, h3]
  · have e0 : Zc (d + 1) 167 [aR 114, aI n, aI nm] s = Ze d 167 22 [aR 114, aI n, aI nm, aI (s 116 n), aI ((0 : Nat) : Int)] [] s := by
      have z0 : ((0 : Nat) : Int) = 0 := rfl
      simp (disch := first | exact obC_114 | omega | (simp only [aN1_115, aN1_116, aN1_119, aN1_123]; omega) | (simp only [List.length_cons, List.length_nil]; omega)) only [en167, x167_0, x167_1, x167_4, x167_5, x167_6, x167_7, x167_10, x167_11, x167_12, x167_13, x167_16, x167_17, x167_18, x167_19, x167_20, x167_24, x167_25, x167_28, x167_31, x167_32, x167_33, x167_36, x167_37, x167_40, x167_41, x167_42, x167_43, x167_46, x167_47, x167_48, x167_49, x167_52, x167_53, x167_54, x167_55, x167_58, x167_61, x167_62, fcn_114_0, fcn_114_1, fcn_114_5, fcn_114_9, if_true, if_false, eq_self, Int.reduceEq, Int.reduceLT, Int.reduceLE, Int.reduceAdd, Int.reduceSub, Int.reduceMul, Int.reduceToNat, Nat.reduceAdd, Nat.reduceMul, Nat.reduceEqDiff, Int.toNat_natCast, wrap_id, h3, z0]
    have hl := fo_loop (d := d) (nm := nm) (ty := n) hC (show n ≤ 201 by omega) (tnz fs) fs (s 116 n) 0 C 0 0 s (Nat.le_refl _) h7 (Nat.le_refl _) (Nat.le_refl _) hf hz
    show (match fnd nm fs with
      | some (o', bk, t') => _
      | none => _)
    rw [e0]
    cases hx : fnd nm fs with
    | none =>
      rw [hx] at hl
      exact hl
    | some y =>
      obtain ⟨o', b', t'⟩ := y
      rw [hx] at hl
      obtain ⟨g', q', i1, i2, i3, i4, i5, i6, i7⟩ := hl
      exact ⟨g', q', i1, i2, i3, i4, by rw [i5, Nat.zero_add], i6, CT_wide i7 (by omega) (Nat.le_refl _) (Nat.le_refl _)⟩
/-- where the check is: which circuit -/
def CHS (s : Mem) (o : Nat) : Prop := s 133 5 = ((59 + o : Nat) : Int) ∧ s 133 6 = ((66 + o : Nat) : Int) ∧ (o = 0 ∨ o = 26)
/-- the names that are declared, as the class has them -/
def EC (s : Mem) (M C : Nat) (env : EnvT) : Prop := ∀ d, d < 26 → match env d with
  | none => s 134 d = -1
  | some (t, b) => s 134 d = b ∧ b + tsz t ≤ 24 ∧ ∃ q : Nat, s 135 d = q ∧ CT s true t q M 0 C 0
theorem CPath_inv {s : Mem} {r : Jvm.Term} {a m : Nat} (h : CPath s r a m) : (∃ k r', r = .elem (.arg k) r' ∧ 1 ≤ m ∧ s 129 a = (if k < 100 then -1 - (k : Int) else (k : Int) - 100) ∧ (k < 26 ∨ 100 ≤ k) ∧ CPath s r' (a + 1) (m - 1)) ∨ (m = 0 ∧ ∀ k r', r ≠ .elem (.arg k) r') := by
  revert h
  fun_cases CPath s r a m with
  | case1 k r => exact fun h => Or.inl ⟨k, r, rfl, h⟩
  | case2 =>
    intro h
    exact Or.inr ⟨h, by assumption⟩
theorem lu_loop {d C M n o : Nat} {nm : Int} {s : Mem} (hd : 1 ≤ d) (ho : o = 0 ∨ o = 26) (hC : C ≤ 200) (hM : M ≤ 201) (hf : s 114 10 = C) (en : Nat) (hen : en ≤ 200) : ∀ (m : Nat) (r : Jvm.Term) (a i q fl : Nat) (t : Jvm.Term) (l8 l9 : AV), i + m = en → CPath s r i m → CT s true t q M 0 C 0 → a + tsz t ≤ 24 →
    match rsv r a t fl with
    | some (a', t', fl') => ∃ (q' : Nat) (l8' l9' : AV), Ze d 89 72 [aR 133, aI n, aI nm, aI a, aI q, aI ((fl % 2 : Nat) : Int), aI en, aI i, l8, l9] [] s = Ze d 89 235 [aR 133, aI n, aI nm, aI a', aI q', aI ((fl' % 2 : Nat) : Int), aI en, aI en, l8', l9'] [] s ∧ CT s true t' q' M 0 C 0
    | none => Ze d 89 72 [aR 133, aI n, aI nm, aI a, aI q, aI ((fl % 2 : Nat) : Int), aI en, aI i, l8, l9] [] s = rI 0 s := by
  intro m
  induction m with
  | zero =>
    intro r a i q fl t l8 l9 hi hP hT hz
    have hr : rsv r a t fl = some (a, t, fl) := by
      rcases CPath_inv hP with ⟨k, r', rfl, p1, -⟩ | ⟨-, hh⟩
      · omega
      · unfold rsv
        split <;> simp_all
    rw [hr, x89_72]
    refine ⟨q, l8, l9, ?_, hT⟩
    rw [show i = en by omega]
    simp (disch := first | exact obC_114 | exact obC_124 | exact obC_133 | exact (obCO_66 ho) | omega | (simp only [aN1_115, aN1_116, aN1_117, aN1_118, aN1_121, aN1_122, aN1_129, aN1_134, aN1_135, (aN1O_67 ho), (aN1O_68 ho), (aN1O_69 ho), (aN1O_70 ho), aN2_120]; omega) | (simp only [List.length_cons, List.length_nil]; omega)) only [en89, x89_0, x89_1, x89_4, x89_7, x89_8, x89_9, x89_10, x89_11, x89_14, x89_15, x89_16, x89_17, x89_20, x89_21, x89_22, x89_23, x89_26, x89_27, x89_28, x89_29, x89_30, x89_33, x89_34, x89_35, x89_37, x89_38, x89_40, x89_41, x89_44, x89_47, x89_48, x89_49, x89_50, x89_53, x89_56, x89_57, x89_58, x89_59, x89_61, x89_62, x89_65, x89_68, x89_69, x89_70, x89_74, x89_76, x89_79, x89_80, x89_83, x89_86, x89_88, x89_89, x89_91, x89_93, x89_96, x89_97, x89_100, x89_103, x89_105, x89_106, x89_107, x89_110, x89_112, x89_113, x89_116, x89_119, x89_121, x89_122, x89_125, x89_126, x89_127, x89_128, x89_131, x89_134, x89_136, x89_137, x89_139, x89_140, x89_142, x89_143, x89_146, x89_149, x89_151, x89_152, x89_153, x89_154, x89_155, x89_158, x89_159, x89_162, x89_164, x89_166, x89_169, x89_172, x89_174, x89_176, x89_177, x89_180, x89_181, x89_182, x89_183, x89_186, x89_189, x89_191, x89_192, x89_194, x89_195, x89_196, x89_199, x89_202, x89_204, x89_205, x89_206, x89_207, x89_209, x89_210, x89_213, x89_216, x89_218, x89_219, x89_222, x89_223, x89_226, x89_227, x89_229, x89_232, x89_236, x89_239, x89_242, x89_243, x89_244, x89_245, x89_246, x89_249, x89_252, x89_253, x89_254, x89_255, x89_256, x89_259, x89_262, x89_263, x89_265, x89_266, x89_267, x89_270, x89_273, x89_274, x89_276, x89_279, x89_280, x89_283, x89_284, x89_285, x89_286, fcn_114_0, fcn_114_1, fcn_114_2, fcn_114_3, fcn_114_6, fcn_114_7, fcn_114_8, fcn_124_5, fcn_133_0, fcn_133_1, fcn_133_3, fcn_133_4, fcn_66_0, fcn_66_1, fcn_66_2, fcn_66_3, fcn_92_0, fcn_92_1, fcn_92_2, fcn_92_3, if_true, if_false, eq_self, Int.reduceEq, Int.reduceLT, Int.reduceLE, Int.reduceAdd, Int.reduceSub, Int.reduceMul, Int.reduceToNat, Nat.reduceAdd, Nat.reduceMul, Nat.reduceEqDiff, Int.toNat_natCast, wrap_id, if_neg (show ¬ (en : Int) < en by omega)]
  | succ m ih =>
    intro r a i q fl t l8 l9 hi hP hT hz
    rcases CPath_inv hP with ⟨k, r, rfl, p1, p2, p3, p4⟩ | ⟨p1, -⟩
    rotate_left
    · omega
    · rw [Nat.add_sub_cancel] at p4
      rw [x89_72]
      have hlt : (i : Int) < en := by omega
      have hsz := CT_size hT rfl
      have hi1 : ((i + 1 : Nat) : Int) = (i : Int) + 1 := rfl
      by_cases hk : k < 100
      · rw [if_pos hk] at p2
        have hfo := k_fieldOf (d := d) (nm := k) hd hC hM hT hf (by omega)
        have hr : rsv (.elem (.arg k) r) a t fl = match fdo k t with
          | some (o, b, t') => rsv r (a + o) t' (fl + b)
          | none => none := by
          rcases CT_inv hT with ⟨w, rfl, -⟩ | ⟨z, t', q', rfl, -⟩ | ⟨fs, rfl, -⟩
          · simp [rsv, fdo]
          · rw [rsv, if_pos hk]
            rfl
          · rw [rsv, if_pos hk]
            rfl
        rw [hr]
        have e0 : ∀ v s', Zc d 167 [aR 114, aI q, aI k] s = rI v s' → Ze d 89 74 [aR 133, aI n, aI nm, aI a, aI q, aI ((fl % 2 : Nat) : Int), aI en, aI i, l8, l9] [aI i] s = Ze d 89 174 [aR 133, aI n, aI nm, aI a, aI q, aI ((fl % 2 : Nat) : Int), aI en, aI i, aI (-1 - (k : Int)), aI v] [] s' := by
          intro v s' e
          have e2 : -1 - (-1 - (k : Int)) = k := by omega
          have e3 := k_fieldPart (d := d) (v := -1 - (k : Int)) (s := s) hd
          have e4 : Zc d 156 [aI (-1 - (k : Int))] s = rI k s := by
            obtain ⟨d', rfl⟩ : ∃ e, d = e + 1 := ⟨d - 1, by omega⟩
            simp (disch := first | exact obC_0 | omega | (simp only [List.length_cons, List.length_nil]; omega)) only [en156, x156_0, x156_1, x156_2, x156_3, if_true, if_false, eq_self, Int.reduceEq, Int.reduceLT, Int.reduceLE, Int.reduceAdd, Int.reduceSub, Int.reduceMul, Int.reduceToNat, Nat.reduceAdd, Nat.reduceMul, Nat.reduceEqDiff, Int.toNat_natCast, wrap_id, e2]
          simp (disch := first | exact obC_114 | exact obC_124 | exact obC_133 | exact (obCO_66 ho) | omega | (simp only [aN1_115, aN1_116, aN1_117, aN1_118, aN1_121, aN1_122, aN1_129, aN1_134, aN1_135, (aN1O_67 ho), (aN1O_68 ho), (aN1O_69 ho), (aN1O_70 ho), aN2_120]; omega) | (simp only [List.length_cons, List.length_nil]; omega)) only [en89, x89_0, x89_1, x89_4, x89_7, x89_8, x89_9, x89_10, x89_11, x89_14, x89_15, x89_16, x89_17, x89_20, x89_21, x89_22, x89_23, x89_26, x89_27, x89_28, x89_29, x89_30, x89_33, x89_34, x89_35, x89_37, x89_38, x89_40, x89_41, x89_44, x89_47, x89_48, x89_49, x89_50, x89_53, x89_56, x89_57, x89_58, x89_59, x89_61, x89_62, x89_65, x89_68, x89_69, x89_70, x89_74, x89_76, x89_79, x89_80, x89_83, x89_86, x89_88, x89_89, x89_91, x89_93, x89_96, x89_97, x89_100, x89_103, x89_105, x89_106, x89_107, x89_110, x89_112, x89_113, x89_116, x89_119, x89_121, x89_122, x89_125, x89_126, x89_127, x89_128, x89_131, x89_134, x89_136, x89_137, x89_139, x89_140, x89_142, x89_143, x89_146, x89_149, x89_151, x89_152, x89_153, x89_154, x89_155, x89_158, x89_159, x89_162, x89_164, x89_166, x89_169, x89_172, x89_176, x89_177, x89_180, x89_181, x89_182, x89_183, x89_186, x89_189, x89_191, x89_192, x89_194, x89_195, x89_196, x89_199, x89_202, x89_204, x89_205, x89_206, x89_207, x89_209, x89_210, x89_213, x89_216, x89_218, x89_219, x89_222, x89_223, x89_226, x89_227, x89_229, x89_232, x89_235, x89_236, x89_239, x89_242, x89_243, x89_244, x89_245, x89_246, x89_249, x89_252, x89_253, x89_254, x89_255, x89_256, x89_259, x89_262, x89_263, x89_265, x89_266, x89_267, x89_270, x89_273, x89_274, x89_276, x89_279, x89_280, x89_283, x89_284, x89_285, x89_286, fcn_114_0, fcn_114_1, fcn_114_2, fcn_114_3, fcn_114_6, fcn_114_7, fcn_114_8, fcn_124_5, fcn_133_0, fcn_133_1, fcn_133_3, fcn_133_4, fcn_66_0, fcn_66_1, fcn_66_2, fcn_66_3, fcn_92_0, fcn_92_1, fcn_92_2, fcn_92_3, if_true, if_false, eq_self, Int.reduceEq, Int.reduceLT, Int.reduceLE, Int.reduceAdd, Int.reduceSub, Int.reduceMul, Int.reduceToNat, Nat.reduceAdd, Nat.reduceMul, Nat.reduceEqDiff, Int.toNat_natCast, wrap_id, if_pos hlt, p2, if_pos (show -1 - (k : Int) < 0 by omega), e4, e, zcI_r]
        cases hx : fdo k t with
        | none =>
          rw [hx] at hfo
          rw [e0 _ _ hfo]
          show _ = rI 0 s
          simp (disch := first | exact obC_114 | exact obC_124 | exact obC_133 | exact (obCO_66 ho) | omega | (simp only [aN1_115, aN1_116, aN1_117, aN1_118, aN1_121, aN1_122, aN1_129, aN1_134, aN1_135, (aN1O_67 ho), (aN1O_68 ho), (aN1O_69 ho), (aN1O_70 ho), aN2_120]; omega) | (simp only [List.length_cons, List.length_nil]; omega)) only [en89, x89_0, x89_1, x89_4, x89_7, x89_8, x89_9, x89_10, x89_11, x89_14, x89_15, x89_16, x89_17, x89_20, x89_21, x89_22, x89_23, x89_26, x89_27, x89_28, x89_29, x89_30, x89_33, x89_34, x89_35, x89_37, x89_38, x89_40, x89_41, x89_44, x89_47, x89_48, x89_49, x89_50, x89_53, x89_56, x89_57, x89_58, x89_59, x89_61, x89_62, x89_65, x89_68, x89_69, x89_70, x89_74, x89_76, x89_79, x89_80, x89_83, x89_86, x89_88, x89_89, x89_91, x89_93, x89_96, x89_97, x89_100, x89_103, x89_105, x89_106, x89_107, x89_110, x89_112, x89_113, x89_116, x89_119, x89_121, x89_122, x89_125, x89_126, x89_127, x89_128, x89_131, x89_134, x89_136, x89_137, x89_139, x89_140, x89_142, x89_143, x89_146, x89_149, x89_151, x89_152, x89_153, x89_154, x89_155, x89_158, x89_159, x89_162, x89_164, x89_166, x89_169, x89_172, x89_174, x89_176, x89_177, x89_180, x89_181, x89_182, x89_183, x89_186, x89_189, x89_191, x89_192, x89_194, x89_195, x89_196, x89_199, x89_202, x89_204, x89_205, x89_206, x89_207, x89_209, x89_210, x89_213, x89_216, x89_218, x89_219, x89_222, x89_223, x89_226, x89_227, x89_229, x89_232, x89_235, x89_236, x89_239, x89_242, x89_243, x89_244, x89_245, x89_246, x89_249, x89_252, x89_253, x89_254, x89_255, x89_256, x89_259, x89_262, x89_263, x89_265, x89_266, x89_267, x89_270, x89_273, x89_274, x89_276, x89_279, x89_280, x89_283, x89_284, x89_285, x89_286, fcn_114_0, fcn_114_1, fcn_114_2, fcn_114_3, fcn_114_6, fcn_114_7, fcn_114_8, fcn_124_5, fcn_133_0, fcn_133_1, fcn_133_3, fcn_133_4, fcn_66_0, fcn_66_1, fcn_66_2, fcn_66_3, fcn_92_0, fcn_92_1, fcn_92_2, fcn_92_3, if_true, if_false, eq_self, Int.reduceEq, Int.reduceLT, Int.reduceLE, Int.reduceAdd, Int.reduceSub, Int.reduceMul, Int.reduceToNat, Nat.reduceAdd, Nat.reduceMul, Nat.reduceEqDiff, Int.toNat_natCast, wrap_id]
        | some y =>
          obtain ⟨o', bk, t'⟩ := y
          rw [hx] at hfo
          obtain ⟨g, q', g1, g2, g3, g4, g5, g6, g7⟩ := hfo
          rw [e0 _ _ g1]
          have hbd : o' + tsz t' ≤ tsz t := by
            unfold fdo at hx
            split at hx
            · have h9 := fnd_le hx
              exact h9
            · cases hx
          have e5 : Ze d 89 174 [aR 133, aI n, aI nm, aI a, aI q, aI ((fl % 2 : Nat) : Int), aI en, aI i, aI (-1 - (k : Int)), aI g] [] s = Ze d 89 72 [aR 133, aI n, aI nm, aI ((a + o' : Nat) : Int), aI q', aI (((fl + bk) % 2 : Nat) : Int), aI en, aI ((i + 1 : Nat) : Int), aI (-1 - (k : Int)), aI g] [] s := by
            rw [hi1]
            by_cases hfl : ((fl % 2 : Nat) : Int) = bk
            · have hz0 : (fl + bk) % 2 = 0 := by omega
              rw [hz0]
              have hc0 : ((0 : Nat) : Int) = 0 := rfl
              have hao : ((a + o' : Nat) : Int) = (a : Int) + o' := rfl
              simp (disch := first | exact obC_114 | exact obC_124 | exact obC_133 | exact (obCO_66 ho) | omega | (simp only [aN1_115, aN1_116, aN1_117, aN1_118, aN1_121, aN1_122, aN1_129, aN1_134, aN1_135, (aN1O_67 ho), (aN1O_68 ho), (aN1O_69 ho), (aN1O_70 ho), aN2_120]; omega) | (simp only [List.length_cons, List.length_nil]; omega)) only [en89, x89_0, x89_1, x89_4, x89_7, x89_8, x89_9, x89_10, x89_11, x89_14, x89_15, x89_16, x89_17, x89_20, x89_21, x89_22, x89_23, x89_26, x89_27, x89_28, x89_29, x89_30, x89_33, x89_34, x89_35, x89_37, x89_38, x89_40, x89_41, x89_44, x89_47, x89_48, x89_49, x89_50, x89_53, x89_56, x89_57, x89_58, x89_59, x89_61, x89_62, x89_65, x89_68, x89_69, x89_70, x89_74, x89_76, x89_79, x89_80, x89_83, x89_86, x89_88, x89_89, x89_91, x89_93, x89_96, x89_97, x89_100, x89_103, x89_105, x89_106, x89_107, x89_110, x89_112, x89_113, x89_116, x89_119, x89_121, x89_122, x89_125, x89_126, x89_127, x89_128, x89_131, x89_134, x89_136, x89_137, x89_139, x89_140, x89_142, x89_143, x89_146, x89_149, x89_151, x89_152, x89_153, x89_154, x89_155, x89_158, x89_159, x89_162, x89_164, x89_166, x89_169, x89_172, x89_174, x89_176, x89_177, x89_180, x89_181, x89_182, x89_183, x89_186, x89_189, x89_191, x89_192, x89_194, x89_195, x89_196, x89_199, x89_202, x89_204, x89_205, x89_206, x89_207, x89_209, x89_210, x89_213, x89_216, x89_218, x89_219, x89_222, x89_223, x89_226, x89_227, x89_229, x89_232, x89_235, x89_236, x89_239, x89_242, x89_243, x89_244, x89_245, x89_246, x89_249, x89_252, x89_253, x89_254, x89_255, x89_256, x89_259, x89_262, x89_263, x89_265, x89_266, x89_267, x89_270, x89_273, x89_274, x89_276, x89_279, x89_280, x89_283, x89_284, x89_285, x89_286, fcn_114_0, fcn_114_1, fcn_114_2, fcn_114_3, fcn_114_6, fcn_114_7, fcn_114_8, fcn_124_5, fcn_133_0, fcn_133_1, fcn_133_3, fcn_133_4, fcn_66_0, fcn_66_1, fcn_66_2, fcn_66_3, fcn_92_0, fcn_92_1, fcn_92_2, fcn_92_3, if_true, if_false, eq_self, Int.reduceEq, Int.reduceLT, Int.reduceLE, Int.reduceAdd, Int.reduceSub, Int.reduceMul, Int.reduceToNat, Nat.reduceAdd, Nat.reduceMul, Nat.reduceEqDiff, Int.toNat_natCast, wrap_id, if_neg (show ¬ ((g : Nat) : Int) = -1 by omega), g3, g5, g6, hao, hc0, if_pos hfl]
            · have hz0 : (fl + bk) % 2 = 1 := by omega
              rw [hz0]
              have hc0 : ((1 : Nat) : Int) = 1 := rfl
              have hao : ((a + o' : Nat) : Int) = (a : Int) + o' := rfl
              simp (disch := first | exact obC_114 | exact obC_124 | exact obC_133 | exact (obCO_66 ho) | omega | (simp only [aN1_115, aN1_116, aN1_117, aN1_118, aN1_121, aN1_122, aN1_129, aN1_134, aN1_135, (aN1O_67 ho), (aN1O_68 ho), (aN1O_69 ho), (aN1O_70 ho), aN2_120]; omega) | (simp only [List.length_cons, List.length_nil]; omega)) only [en89, x89_0, x89_1, x89_4, x89_7, x89_8, x89_9, x89_10, x89_11, x89_14, x89_15, x89_16, x89_17, x89_20, x89_21, x89_22, x89_23, x89_26, x89_27, x89_28, x89_29, x89_30, x89_33, x89_34, x89_35, x89_37, x89_38, x89_40, x89_41, x89_44, x89_47, x89_48, x89_49, x89_50, x89_53, x89_56, x89_57, x89_58, x89_59, x89_61, x89_62, x89_65, x89_68, x89_69, x89_70, x89_74, x89_76, x89_79, x89_80, x89_83, x89_86, x89_88, x89_89, x89_91, x89_93, x89_96, x89_97, x89_100, x89_103, x89_105, x89_106, x89_107, x89_110, x89_112, x89_113, x89_116, x89_119, x89_121, x89_122, x89_125, x89_126, x89_127, x89_128, x89_131, x89_134, x89_136, x89_137, x89_139, x89_140, x89_142, x89_143, x89_146, x89_149, x89_151, x89_152, x89_153, x89_154, x89_155, x89_158, x89_159, x89_162, x89_164, x89_166, x89_169, x89_172, x89_174, x89_176, x89_177, x89_180, x89_181, x89_182, x89_183, x89_186, x89_189, x89_191, x89_192, x89_194, x89_195, x89_196, x89_199, x89_202, x89_204, x89_205, x89_206, x89_207, x89_209, x89_210, x89_213, x89_216, x89_218, x89_219, x89_222, x89_223, x89_226, x89_227, x89_229, x89_232, x89_235, x89_236, x89_239, x89_242, x89_243, x89_244, x89_245, x89_246, x89_249, x89_252, x89_253, x89_254, x89_255, x89_256, x89_259, x89_262, x89_263, x89_265, x89_266, x89_267, x89_270, x89_273, x89_274, x89_276, x89_279, x89_280, x89_283, x89_284, x89_285, x89_286, fcn_114_0, fcn_114_1, fcn_114_2, fcn_114_3, fcn_114_6, fcn_114_7, fcn_114_8, fcn_124_5, fcn_133_0, fcn_133_1, fcn_133_3, fcn_133_4, fcn_66_0, fcn_66_1, fcn_66_2, fcn_66_3, fcn_92_0, fcn_92_1, fcn_92_2, fcn_92_3, if_true, if_false, eq_self, Int.reduceEq, Int.reduceLT, Int.reduceLE, Int.reduceAdd, Int.reduceSub, Int.reduceMul, Int.reduceToNat, Nat.reduceAdd, Nat.reduceMul, Nat.reduceEqDiff, Int.toNat_natCast, wrap_id, if_neg (show ¬ ((g : Nat) : Int) = -1 by omega), g3, g5, g6, hao, hc0, if_neg hfl]
          rw [e5]
          exact ih r (a + o') (i + 1) q' (fl + bk) t' _ _ (by omega) p4 g7 (by omega)
      · rw [if_neg hk] at p2
        rcases CT_inv hT with ⟨w, rfl, h2, h3, h4, h5, h6⟩ | ⟨z, t', q', rfl, h2, h3, h4, h5, h6, hq, h7⟩ | ⟨fs, rfl, h2, h3, h5, h6, h7⟩
        · have hr : rsv (.elem (.arg k) r) a (.arg w) fl = none := by simp [rsv]
          rw [hr]
          show _ = rI 0 s
          simp (disch := first | exact obC_114 | exact obC_124 | exact obC_133 | exact (obCO_66 ho) | omega | (simp only [aN1_115, aN1_116, aN1_117, aN1_118, aN1_121, aN1_122, aN1_129, aN1_134, aN1_135, (aN1O_67 ho), (aN1O_68 ho), (aN1O_69 ho), (aN1O_70 ho), aN2_120]; omega) | (simp only [List.length_cons, List.length_nil]; omega)) only [en89, x89_0, x89_1, x89_4, x89_7, x89_8, x89_9, x89_10, x89_11, x89_14, x89_15, x89_16, x89_17, x89_20, x89_21, x89_22, x89_23, x89_26, x89_27, x89_28, x89_29, x89_30, x89_33, x89_34, x89_35, x89_37, x89_38, x89_40, x89_41, x89_44, x89_47, x89_48, x89_49, x89_50, x89_53, x89_56, x89_57, x89_58, x89_59, x89_61, x89_62, x89_65, x89_68, x89_69, x89_70, x89_74, x89_76, x89_79, x89_80, x89_83, x89_86, x89_88, x89_89, x89_91, x89_93, x89_96, x89_97, x89_100, x89_103, x89_105, x89_106, x89_107, x89_110, x89_112, x89_113, x89_116, x89_119, x89_121, x89_122, x89_125, x89_126, x89_127, x89_128, x89_131, x89_134, x89_136, x89_137, x89_139, x89_140, x89_142, x89_143, x89_146, x89_149, x89_151, x89_152, x89_153, x89_154, x89_155, x89_158, x89_159, x89_162, x89_164, x89_166, x89_169, x89_172, x89_174, x89_176, x89_177, x89_180, x89_181, x89_182, x89_183, x89_186, x89_189, x89_191, x89_192, x89_194, x89_195, x89_196, x89_199, x89_202, x89_204, x89_205, x89_206, x89_207, x89_209, x89_210, x89_213, x89_216, x89_218, x89_219, x89_222, x89_223, x89_226, x89_227, x89_229, x89_232, x89_235, x89_236, x89_239, x89_242, x89_243, x89_244, x89_245, x89_246, x89_249, x89_252, x89_253, x89_254, x89_255, x89_256, x89_259, x89_262, x89_263, x89_265, x89_266, x89_267, x89_270, x89_273, x89_274, x89_276, x89_279, x89_280, x89_283, x89_284, x89_285, x89_286, fcn_114_0, fcn_114_1, fcn_114_2, fcn_114_3, fcn_114_6, fcn_114_7, fcn_114_8, fcn_124_5, fcn_133_0, fcn_133_1, fcn_133_3, fcn_133_4, fcn_66_0, fcn_66_1, fcn_66_2, fcn_66_3, fcn_92_0, fcn_92_1, fcn_92_2, fcn_92_3, if_true, if_false, eq_self, Int.reduceEq, Int.reduceLT, Int.reduceLE, Int.reduceAdd, Int.reduceSub, Int.reduceMul, Int.reduceToNat, Nat.reduceAdd, Nat.reduceMul, Nat.reduceEqDiff, Int.toNat_natCast, wrap_id, if_pos hlt, p2, if_neg (show ¬ (k : Int) - 100 < 0 by omega), h3]
        · have hr : rsv (.elem (.arg k) r) a (.mul (.arg z) t') fl = if k - 100 < z then rsv r (a + (k - 100) * tsz t') t' fl else none := by
            rw [rsv, if_neg hk]
          rw [hr]
          obtain ⟨z1, z2, z3, z4⟩ := CT_size h7 rfl
          rw [Int.toNat_natCast] at z3
          by_cases hlt2 : k - 100 < z
          · rw [if_pos hlt2]
            have hsz' : tsz (.mul (.arg z) t') = z * tsz t' := rfl
            rw [hsz'] at hz
            have hmul : (k - 100) * tsz t' + tsz t' ≤ z * tsz t' := by
              have : (k - 100 + 1) * tsz t' ≤ z * tsz t' := Nat.mul_le_mul_right _ (by omega)
              rw [Nat.succ_mul] at this
              exact this
            have hm25 : min 25 (tsz t') = tsz t' := by omega
            rw [hm25] at z3
            have hkk : ((k : Int) - 100) * ((tsz t' : Nat) : Int) = (((k - 100) * tsz t' : Nat) : Int) := by
              rw [Int.natCast_mul, show ((k - 100 : Nat) : Int) = (k : Int) - 100 by omega]
            have hao : ((a + (k - 100) * tsz t' : Nat) : Int) = (a : Int) + (((k - 100) * tsz t' : Nat) : Int) := by omega
            have e5 : Ze d 89 74 [aR 133, aI n, aI nm, aI a, aI q, aI ((fl % 2 : Nat) : Int), aI en, aI i, l8, l9] [aI i] s = Ze d 89 72 [aR 133, aI n, aI nm, aI ((a + (k - 100) * tsz t' : Nat) : Int), aI q', aI ((fl % 2 : Nat) : Int), aI en, aI ((i + 1 : Nat) : Int), aI ((k : Int) - 100), l9] [] s := by
              rw [hi1]
              simp (disch := first | exact obC_114 | exact obC_124 | exact obC_133 | exact (obCO_66 ho) | omega | (simp only [aN1_115, aN1_116, aN1_117, aN1_118, aN1_121, aN1_122, aN1_129, aN1_134, aN1_135, (aN1O_67 ho), (aN1O_68 ho), (aN1O_69 ho), (aN1O_70 ho), aN2_120]; omega) | (simp only [List.length_cons, List.length_nil]; omega)) only [en89, x89_0, x89_1, x89_4, x89_7, x89_8, x89_9, x89_10, x89_11, x89_14, x89_15, x89_16, x89_17, x89_20, x89_21, x89_22, x89_23, x89_26, x89_27, x89_28, x89_29, x89_30, x89_33, x89_34, x89_35, x89_37, x89_38, x89_40, x89_41, x89_44, x89_47, x89_48, x89_49, x89_50, x89_53, x89_56, x89_57, x89_58, x89_59, x89_61, x89_62, x89_65, x89_68, x89_69, x89_70, x89_74, x89_76, x89_79, x89_80, x89_83, x89_86, x89_88, x89_89, x89_91, x89_93, x89_96, x89_97, x89_100, x89_103, x89_105, x89_106, x89_107, x89_110, x89_112, x89_113, x89_116, x89_119, x89_121, x89_122, x89_125, x89_126, x89_127, x89_128, x89_131, x89_134, x89_136, x89_137, x89_139, x89_140, x89_142, x89_143, x89_146, x89_149, x89_151, x89_152, x89_153, x89_154, x89_155, x89_158, x89_159, x89_162, x89_164, x89_166, x89_169, x89_172, x89_174, x89_176, x89_177, x89_180, x89_181, x89_182, x89_183, x89_186, x89_189, x89_191, x89_192, x89_194, x89_195, x89_196, x89_199, x89_202, x89_204, x89_205, x89_206, x89_207, x89_209, x89_210, x89_213, x89_216, x89_218, x89_219, x89_222, x89_223, x89_226, x89_227, x89_229, x89_232, x89_235, x89_236, x89_239, x89_242, x89_243, x89_244, x89_245, x89_246, x89_249, x89_252, x89_253, x89_254, x89_255, x89_256, x89_259, x89_262, x89_263, x89_265, x89_266, x89_267, x89_270, x89_273, x89_274, x89_276, x89_279, x89_280, x89_283, x89_284, x89_285, x89_286, fcn_114_0, fcn_114_1, fcn_114_2, fcn_114_3, fcn_114_6, fcn_114_7, fcn_114_8, fcn_124_5, fcn_133_0, fcn_133_1, fcn_133_3, fcn_133_4, fcn_66_0, fcn_66_1, fcn_66_2, fcn_66_3, fcn_92_0, fcn_92_1, fcn_92_2, fcn_92_3, if_true, if_false, eq_self, Int.reduceEq, Int.reduceLT, Int.reduceLE, Int.reduceAdd, Int.reduceSub, Int.reduceMul, Int.reduceToNat, Nat.reduceAdd, Nat.reduceMul, Nat.reduceEqDiff, Int.toNat_natCast, wrap_id, if_pos hlt, p2, if_neg (show ¬ (k : Int) - 100 < 0 by omega), h3, h4, if_pos (show (k : Int) - 100 < z by omega), hq, z3, hkk, hao]
            rw [e5]
            exact ih r (a + (k - 100) * tsz t') (i + 1) q' fl t' _ _ (by omega) p4 (CT_wide h7 (by omega) (Nat.le_refl _) (Nat.le_refl _)) (by omega)
          · rw [if_neg hlt2]
            show _ = rI 0 s
            simp (disch := first | exact obC_114 | exact obC_124 | exact obC_133 | exact (obCO_66 ho) | omega | (simp only [aN1_115, aN1_116, aN1_117, aN1_118, aN1_121, aN1_122, aN1_129, aN1_134, aN1_135, (aN1O_67 ho), (aN1O_68 ho), (aN1O_69 ho), (aN1O_70 ho), aN2_120]; omega) | (simp only [List.length_cons, List.length_nil]; omega)) only [en89, x89_0, x89_1, x89_4, x89_7, x89_8, x89_9, x89_10, x89_11, x89_14, x89_15, x89_16, x89_17, x89_20, x89_21, x89_22, x89_23, x89_26, x89_27, x89_28, x89_29, x89_30, x89_33, x89_34, x89_35, x89_37, x89_38, x89_40, x89_41, x89_44, x89_47, x89_48, x89_49, x89_50, x89_53, x89_56, x89_57, x89_58, x89_59, x89_61, x89_62, x89_65, x89_68, x89_69, x89_70, x89_74, x89_76, x89_79, x89_80, x89_83, x89_86, x89_88, x89_89, x89_91, x89_93, x89_96, x89_97, x89_100, x89_103, x89_105, x89_106, x89_107, x89_110, x89_112, x89_113, x89_116, x89_119, x89_121, x89_122, x89_125, x89_126, x89_127, x89_128, x89_131, x89_134, x89_136, x89_137, x89_139, x89_140, x89_142, x89_143, x89_146, x89_149, x89_151, x89_152, x89_153, x89_154, x89_155, x89_158, x89_159, x89_162, x89_164, x89_166, x89_169, x89_172, x89_174, x89_176, x89_177, x89_180, x89_181, x89_182, x89_183, x89_186, x89_189, x89_191, x89_192, x89_194, x89_195, x89_196, x89_199, x89_202, x89_204, x89_205, x89_206, x89_207, x89_209, x89_210, x89_213, x89_216, x89_218, x89_219, x89_222, x89_223, x89_226, x89_227, x89_229, x89_232, x89_235, x89_236, x89_239, x89_242, x89_243, x89_244, x89_245, x89_246, x89_249, x89_252, x89_253, x89_254, x89_255, x89_256, x89_259, x89_262, x89_263, x89_265, x89_266, x89_267, x89_270, x89_273, x89_274, x89_276, x89_279, x89_280, x89_283, x89_284, x89_285, x89_286, fcn_114_0, fcn_114_1, fcn_114_2, fcn_114_3, fcn_114_6, fcn_114_7, fcn_114_8, fcn_124_5, fcn_133_0, fcn_133_1, fcn_133_3, fcn_133_4, fcn_66_0, fcn_66_1, fcn_66_2, fcn_66_3, fcn_92_0, fcn_92_1, fcn_92_2, fcn_92_3, if_true, if_false, eq_self, Int.reduceEq, Int.reduceLT, Int.reduceLE, Int.reduceAdd, Int.reduceSub, Int.reduceMul, Int.reduceToNat, Nat.reduceAdd, Nat.reduceMul, Nat.reduceEqDiff, Int.toNat_natCast, wrap_id, if_pos hlt, p2, if_neg (show ¬ (k : Int) - 100 < 0 by omega), h3, h4, if_neg (show ¬ (k : Int) - 100 < z by omega)]
        · have hr : rsv (.elem (.arg k) r) a (.sum fs) fl = none := by rw [rsv, if_neg hk]
          rw [hr]
          show _ = rI 0 s
          simp (disch := first | exact obC_114 | exact obC_124 | exact obC_133 | exact (obCO_66 ho) | omega | (simp only [aN1_115, aN1_116, aN1_117, aN1_118, aN1_121, aN1_122, aN1_129, aN1_134, aN1_135, (aN1O_67 ho), (aN1O_68 ho), (aN1O_69 ho), (aN1O_70 ho), aN2_120]; omega) | (simp only [List.length_cons, List.length_nil]; omega)) only [en89, x89_0, x89_1, x89_4, x89_7, x89_8, x89_9, x89_10, x89_11, x89_14, x89_15, x89_16, x89_17, x89_20, x89_21, x89_22, x89_23, x89_26, x89_27, x89_28, x89_29, x89_30, x89_33, x89_34, x89_35, x89_37, x89_38, x89_40, x89_41, x89_44, x89_47, x89_48, x89_49, x89_50, x89_53, x89_56, x89_57, x89_58, x89_59, x89_61, x89_62, x89_65, x89_68, x89_69, x89_70, x89_74, x89_76, x89_79, x89_80, x89_83, x89_86, x89_88, x89_89, x89_91, x89_93, x89_96, x89_97, x89_100, x89_103, x89_105, x89_106, x89_107, x89_110, x89_112, x89_113, x89_116, x89_119, x89_121, x89_122, x89_125, x89_126, x89_127, x89_128, x89_131, x89_134, x89_136, x89_137, x89_139, x89_140, x89_142, x89_143, x89_146, x89_149, x89_151, x89_152, x89_153, x89_154, x89_155, x89_158, x89_159, x89_162, x89_164, x89_166, x89_169, x89_172, x89_174, x89_176, x89_177, x89_180, x89_181, x89_182, x89_183, x89_186, x89_189, x89_191, x89_192, x89_194, x89_195, x89_196, x89_199, x89_202, x89_204, x89_205, x89_206, x89_207, x89_209, x89_210, x89_213, x89_216, x89_218, x89_219, x89_222, x89_223, x89_226, x89_227, x89_229, x89_232, x89_235, x89_236, x89_239, x89_242, x89_243, x89_244, x89_245, x89_246, x89_249, x89_252, x89_253, x89_254, x89_255, x89_256, x89_259, x89_262, x89_263, x89_265, x89_266, x89_267, x89_270, x89_273, x89_274, x89_276, x89_279, x89_280, x89_283, x89_284, x89_285, x89_286, fcn_114_0, fcn_114_1, fcn_114_2, fcn_114_3, fcn_114_6, fcn_114_7, fcn_114_8, fcn_124_5, fcn_133_0, fcn_133_1, fcn_133_3, fcn_133_4, fcn_66_0, fcn_66_1, fcn_66_2, fcn_66_3, fcn_92_0, fcn_92_1, fcn_92_2, fcn_92_3, if_true, if_false, eq_self, Int.reduceEq, Int.reduceLT, Int.reduceLE, Int.reduceAdd, Int.reduceSub, Int.reduceMul, Int.reduceToNat, Nat.reduceAdd, Nat.reduceMul, Nat.reduceEqDiff, Int.toNat_natCast, wrap_id, if_pos hlt, p2, if_neg (show ¬ (k : Int) - 100 < 0 by omega), h3]
/-- a name that has been looked up -/
def luS (s : Mem) (o n g q fl : Nat) : Mem := mu (mu (mu (mu s (67 + o) n 5) (68 + o) n g) (69 + o) n q) (70 + o) n (fl : Nat)
theorem luS_at {s : Mem} {o n g q fl : Nat} : luS s o n g q fl (67 + o) n = 5 ∧ luS s o n g q fl (68 + o) n = g ∧ luS s o n g q fl (69 + o) n = q ∧ luS s o n g q fl (70 + o) n = fl ∧ (∀ k j, (k < 67 + o ∨ 70 + o < k ∨ j ≠ n) → luS s o n g q fl k j = s k j) := by
  unfold luS
  refine ⟨?_, ?_, ?_, ?_, fun k j h => ?_⟩
  · rw [mu_c (by omega), mu_c (by omega), mu_c (by omega), mu_s]
  · rw [mu_c (by omega), mu_c (by omega), mu_s]
  · rw [mu_c (by omega), mu_s]
  · rw [mu_s]
  · by_cases e : j = n
    · rw [mu_c (by omega), mu_c (by omega), mu_c (by omega), mu_c (by omega)]
    · rw [mu_i e, mu_i e, mu_i e, mu_i e]
theorem k_lookUp {d C M o n nm a m : Nat} {env : EnvT} {r : Jvm.Term} {s : Mem} (hd : 2 ≤ d) (hC : C ≤ 200) (hM : M ≤ 201) (hf : s 114 10 = C) (hCH : CHS s o) (hE : EC s M C env) (hn : n < 225) (hnm : s (70 + o) n = nm) (hnm2 : nm < 26) (hl : s (68 + o) n = a) (hm : s (69 + o) n = m) (ham : a + m ≤ 200) (hP : CPath s r a m) :
    match lk env nm r with
    | some (g, t, fl) => ∃ q : Nat, Zc d 89 [aR 133, aI n] s = rI 1 (luS s o n g q (fl % 2)) ∧ CT s true t q M 0 C 0
    | none => Zc d 89 [aR 133, aI n] s = rI 0 s := by
  obtain ⟨d, rfl⟩ : ∃ e, d = e + 1 := ⟨d - 1, by omega⟩
  obtain ⟨c1, c2, ho⟩ := hCH
  have hEn := hE nm hnm2
  unfold lk
  cases he : env nm with
  | none =>
    rw [he] at hEn
    dsimp only at hEn
    show _ = rI 0 s
    simp (disch := first | exact obC_114 | exact obC_124 | exact obC_133 | exact (obCO_66 ho) | omega | (simp only [aN1_115, aN1_116, aN1_117, aN1_118, aN1_121, aN1_122, aN1_129, aN1_134, aN1_135, (aN1O_67 ho), (aN1O_68 ho), (aN1O_69 ho), (aN1O_70 ho), aN2_120]; omega) | (simp only [List.length_cons, List.length_nil]; omega)) only [en89, x89_0, x89_1, x89_4, x89_7, x89_8, x89_9, x89_10, x89_11, x89_14, x89_15, x89_16, x89_17, x89_20, x89_21, x89_22, x89_23, x89_26, x89_27, x89_28, x89_29, x89_30, x89_33, x89_34, x89_35, x89_37, x89_38, x89_40, x89_41, x89_44, x89_47, x89_48, x89_49, x89_50, x89_53, x89_56, x89_57, x89_58, x89_59, x89_61, x89_62, x89_65, x89_68, x89_69, x89_70, x89_74, x89_76, x89_79, x89_80, x89_83, x89_86, x89_88, x89_89, x89_91, x89_93, x89_96, x89_97, x89_100, x89_103, x89_105, x89_106, x89_107, x89_110, x89_112, x89_113, x89_116, x89_119, x89_121, x89_122, x89_125, x89_126, x89_127, x89_128, x89_131, x89_134, x89_136, x89_137, x89_139, x89_140, x89_142, x89_143, x89_146, x89_149, x89_151, x89_152, x89_153, x89_154, x89_155, x89_158, x89_159, x89_162, x89_164, x89_166, x89_169, x89_172, x89_174, x89_176, x89_177, x89_180, x89_181, x89_182, x89_183, x89_186, x89_189, x89_191, x89_192, x89_194, x89_195, x89_196, x89_199, x89_202, x89_204, x89_205, x89_206, x89_207, x89_209, x89_210, x89_213, x89_216, x89_218, x89_219, x89_222, x89_223, x89_226, x89_227, x89_229, x89_232, x89_235, x89_236, x89_239, x89_242, x89_243, x89_244, x89_245, x89_246, x89_249, x89_252, x89_253, x89_254, x89_255, x89_256, x89_259, x89_262, x89_263, x89_265, x89_266, x89_267, x89_270, x89_273, x89_274, x89_276, x89_279, x89_280, x89_283, x89_284, x89_285, x89_286, fcn_114_0, fcn_114_1, fcn_114_2, fcn_114_3, fcn_114_6, fcn_114_7, fcn_114_8, fcn_124_5, fcn_133_0, fcn_133_1, fcn_133_3, fcn_133_4, (fcnO_66_0 ho), (fcnO_66_1 ho), (fcnO_66_2 ho), (fcnO_66_3 ho), if_true, if_false, eq_self, Int.reduceEq, Int.reduceLT, Int.reduceLE, Int.reduceAdd, Int.reduceSub, Int.reduceMul, Int.reduceToNat, Nat.reduceAdd, Nat.reduceMul, Nat.reduceEqDiff, Int.toNat_natCast, wrap_id, c2, hnm, hEn]
  | some tb =>
    obtain ⟨t, b⟩ := tb
    rw [he] at hEn
    obtain ⟨g1, g2, q, g3, g4⟩ := hEn
    have ham' : (a : Int) + m = ((a + m : Nat) : Int) := rfl
    have e0 : Zc (d + 1) 89 [aR 133, aI n] s = Ze d 89 72 [aR 133, aI n, aI nm, aI b, aI q, aI ((0 % 2 : Nat) : Int), aI ((a + m : Nat) : Int), aI a, aU, aU] [] s := by
      have z0 : ((0 % 2 : Nat) : Int) = 0 := rfl
      simp (disch := first | exact obC_114 | exact obC_124 | exact obC_133 | exact (obCO_66 ho) | omega | (simp only [aN1_115, aN1_116, aN1_117, aN1_118, aN1_121, aN1_122, aN1_129, aN1_134, aN1_135, (aN1O_67 ho), (aN1O_68 ho), (aN1O_69 ho), (aN1O_70 ho), aN2_120]; omega) | (simp only [List.length_cons, List.length_nil]; omega)) only [en89, x89_0, x89_1, x89_4, x89_7, x89_8, x89_9, x89_10, x89_11, x89_14, x89_15, x89_16, x89_17, x89_20, x89_21, x89_22, x89_23, x89_26, x89_27, x89_28, x89_29, x89_30, x89_33, x89_34, x89_35, x89_37, x89_38, x89_40, x89_41, x89_44, x89_47, x89_48, x89_49, x89_50, x89_53, x89_56, x89_57, x89_58, x89_59, x89_61, x89_62, x89_65, x89_68, x89_69, x89_70, x89_74, x89_76, x89_79, x89_80, x89_83, x89_86, x89_88, x89_89, x89_91, x89_93, x89_96, x89_97, x89_100, x89_103, x89_105, x89_106, x89_107, x89_110, x89_112, x89_113, x89_116, x89_119, x89_121, x89_122, x89_125, x89_126, x89_127, x89_128, x89_131, x89_134, x89_136, x89_137, x89_139, x89_140, x89_142, x89_143, x89_146, x89_149, x89_151, x89_152, x89_153, x89_154, x89_155, x89_158, x89_159, x89_162, x89_164, x89_166, x89_169, x89_172, x89_174, x89_176, x89_177, x89_180, x89_181, x89_182, x89_183, x89_186, x89_189, x89_191, x89_192, x89_194, x89_195, x89_196, x89_199, x89_202, x89_204, x89_205, x89_206, x89_207, x89_209, x89_210, x89_213, x89_216, x89_218, x89_219, x89_222, x89_223, x89_226, x89_227, x89_229, x89_232, x89_235, x89_236, x89_239, x89_242, x89_243, x89_244, x89_245, x89_246, x89_249, x89_252, x89_253, x89_254, x89_255, x89_256, x89_259, x89_262, x89_263, x89_265, x89_266, x89_267, x89_270, x89_273, x89_274, x89_276, x89_279, x89_280, x89_283, x89_284, x89_285, x89_286, fcn_114_0, fcn_114_1, fcn_114_2, fcn_114_3, fcn_114_6, fcn_114_7, fcn_114_8, fcn_124_5, fcn_133_0, fcn_133_1, fcn_133_3, fcn_133_4, (fcnO_66_0 ho), (fcnO_66_1 ho), (fcnO_66_2 ho), (fcnO_66_3 ho), if_true, if_false, eq_self, Int.reduceEq, Int.reduceLT, Int.reduceLE, Int.reduceAdd, Int.reduceSub, Int.reduceMul, Int.reduceToNat, Nat.reduceAdd, Nat.reduceMul, Nat.reduceEqDiff, Int.toNat_natCast, wrap_id, c2, hnm, g1, g3, hl, hm, if_neg (show ¬ ((b : Nat) : Int) = -1 by omega), ham', z0]
    rw [e0]
    have hL := lu_loop (d := d) (n := n) (nm := nm) (s := s) (by omega) ho hC hM hf (a + m) ham m r b a q 0 t aU aU rfl hP g4 (by omega)
    show (match rsv r b t 0 with
      | some (g, t, fl) => _
      | none => _)
    cases hr : rsv r b t 0 with
    | none =>
      rw [hr] at hL
      exact hL
    | some y =>
      obtain ⟨a', t', fl'⟩ := y
      rw [hr] at hL
      obtain ⟨q', l8, l9, h1, h2⟩ := hL
      refine ⟨q', ?_, h2⟩
      rw [h1]
      unfold luS
      by_cases hfl : fl' % 2 = 0
      · have z0 : ((fl' % 2 : Nat) : Int) = 0 := by omega
        simp (disch := first | exact obC_114 | exact obC_124 | exact obC_133 | exact (obCO_66 ho) | omega | (simp only [aN1_115, aN1_116, aN1_117, aN1_118, aN1_121, aN1_122, aN1_129, aN1_134, aN1_135, (aN1O_67 ho), (aN1O_68 ho), (aN1O_69 ho), (aN1O_70 ho), aN2_120]; omega) | (simp only [List.length_cons, List.length_nil]; omega) | ((repeat rw [mu_c (by omega)]); omega)) only [en89, x89_0, x89_1, x89_4, x89_7, x89_8, x89_9, x89_10, x89_11, x89_14, x89_15, x89_16, x89_17, x89_20, x89_21, x89_22, x89_23, x89_26, x89_27, x89_28, x89_29, x89_30, x89_33, x89_34, x89_35, x89_37, x89_38, x89_40, x89_41, x89_44, x89_47, x89_48, x89_49, x89_50, x89_53, x89_56, x89_57, x89_58, x89_59, x89_61, x89_62, x89_65, x89_68, x89_69, x89_70, x89_74, x89_76, x89_79, x89_80, x89_83, x89_86, x89_88, x89_89, x89_91, x89_93, x89_96, x89_97, x89_100, x89_103, x89_105, x89_106, x89_107, x89_110, x89_112, x89_113, x89_116, x89_119, x89_121, x89_122, x89_125, x89_126, x89_127, x89_128, x89_131, x89_134, x89_136, x89_137, x89_139, x89_140, x89_142, x89_143, x89_146, x89_149, x89_151, x89_152, x89_153, x89_154, x89_155, x89_158, x89_159, x89_162, x89_164, x89_166, x89_169, x89_172, x89_174, x89_176, x89_177, x89_180, x89_181, x89_182, x89_183, x89_186, x89_189, x89_191, x89_192, x89_194, x89_195, x89_196, x89_199, x89_202, x89_204, x89_205, x89_206, x89_207, x89_209, x89_210, x89_213, x89_216, x89_218, x89_219, x89_222, x89_223, x89_226, x89_227, x89_229, x89_232, x89_235, x89_236, x89_239, x89_242, x89_243, x89_244, x89_245, x89_246, x89_249, x89_252, x89_253, x89_254, x89_255, x89_256, x89_259, x89_262, x89_263, x89_265, x89_266, x89_267, x89_270, x89_273, x89_274, x89_276, x89_279, x89_280, x89_283, x89_284, x89_285, x89_286, fcn_114_0, fcn_114_1, fcn_114_2, fcn_114_3, fcn_114_6, fcn_114_7, fcn_114_8, fcn_124_5, fcn_133_0, fcn_133_1, fcn_133_3, fcn_133_4, (fcnO_66_0 ho), (fcnO_66_1 ho), (fcnO_66_2 ho), (fcnO_66_3 ho), if_true, if_false, eq_self, Int.reduceEq, Int.reduceLT, Int.reduceLE, Int.reduceAdd, Int.reduceSub, Int.reduceMul, Int.reduceToNat, Nat.reduceAdd, Nat.reduceMul, Nat.reduceEqDiff, Int.toNat_natCast, wrap_id, mu_c, c2, z0]
      · have z0 : ((fl' % 2 : Nat) : Int) = 1 := by omega
        simp (disch := first | exact obC_114 | exact obC_124 | exact obC_133 | exact (obCO_66 ho) | omega | (simp only [aN1_115, aN1_116, aN1_117, aN1_118, aN1_121, aN1_122, aN1_129, aN1_134, aN1_135, (aN1O_67 ho), (aN1O_68 ho), (aN1O_69 ho), (aN1O_70 ho), aN2_120]; omega) | (simp only [List.length_cons, List.length_nil]; omega) | ((repeat rw [mu_c (by omega)]); omega)) only [en89, x89_0, x89_1, x89_4, x89_7, x89_8, x89_9, x89_10, x89_11, x89_14, x89_15, x89_16, x89_17, x89_20, x89_21, x89_22, x89_23, x89_26, x89_27, x89_28, x89_29, x89_30, x89_33, x89_34, x89_35, x89_37, x89_38, x89_40, x89_41, x89_44, x89_47, x89_48, x89_49, x89_50, x89_53, x89_56, x89_57, x89_58, x89_59, x89_61, x89_62, x89_65, x89_68, x89_69, x89_70, x89_74, x89_76, x89_79, x89_80, x89_83, x89_86, x89_88, x89_89, x89_91, x89_93, x89_96, x89_97, x89_100, x89_103, x89_105, x89_106, x89_107, x89_110, x89_112, x89_113, x89_116, x89_119, x89_121, x89_122, x89_125, x89_126, x89_127, x89_128, x89_131, x89_134, x89_136, x89_137, x89_139, x89_140, x89_142, x89_143, x89_146, x89_149, x89_151, x89_152, x89_153, x89_154, x89_155, x89_158, x89_159, x89_162, x89_164, x89_166, x89_169, x89_172, x89_174, x89_176, x89_177, x89_180, x89_181, x89_182, x89_183, x89_186, x89_189, x89_191, x89_192, x89_194, x89_195, x89_196, x89_199, x89_202, x89_204, x89_205, x89_206, x89_207, x89_209, x89_210, x89_213, x89_216, x89_218, x89_219, x89_222, x89_223, x89_226, x89_227, x89_229, x89_232, x89_235, x89_236, x89_239, x89_242, x89_243, x89_244, x89_245, x89_246, x89_249, x89_252, x89_253, x89_254, x89_255, x89_256, x89_259, x89_262, x89_263, x89_265, x89_266, x89_267, x89_270, x89_273, x89_274, x89_276, x89_279, x89_280, x89_283, x89_284, x89_285, x89_286, fcn_114_0, fcn_114_1, fcn_114_2, fcn_114_3, fcn_114_6, fcn_114_7, fcn_114_8, fcn_124_5, fcn_133_0, fcn_133_1, fcn_133_3, fcn_133_4, (fcnO_66_0 ho), (fcnO_66_1 ho), (fcnO_66_2 ho), (fcnO_66_3 ho), if_true, if_false, eq_self, Int.reduceEq, Int.reduceLT, Int.reduceLE, Int.reduceAdd, Int.reduceSub, Int.reduceMul, Int.reduceToNat, Nat.reduceAdd, Nat.reduceMul, Nat.reduceEqDiff, Int.toNat_natCast, wrap_id, mu_c, c2, z0, if_neg (show ¬ (1 : Int) = 0 by decide)]
theorem k_isGround {d M C o n q : Nat} {t : Jvm.Term} {s : Mem} (hd : 1 ≤ d) (hM : M ≤ 201) (hCH : CHS s o) (hn : n < 225) (hq : s (69 + o) n = q) (hT : CT s true t q M 0 C 0) : Zc d 86 [aR 133, aI n] s = rI (if isGr t = true then 1 else 0) s := by
  obtain ⟨d, rfl⟩ : ∃ e, d = e + 1 := ⟨d - 1, by omega⟩
  obtain ⟨c1, c2, ho⟩ := hCH
  rcases CT_inv hT with ⟨w, rfl, h2, h3, h4, h5, h6⟩ | ⟨k, t, q', rfl, h2, h3, h4, h5, h6, hq', h7⟩ | ⟨fs, rfl, h2, h3, h5, h6, h7⟩
  · simp (disch := first | exact obC_114 | exact obC_133 | exact (obCO_66 ho) | omega | (simp only [aN1_115, (aN1O_69 ho)]; omega) | (simp only [List.length_cons, List.length_nil]; omega)) only [en86, x86_0, x86_1, x86_4, x86_7, x86_8, x86_11, x86_14, x86_15, x86_16, x86_17, x86_20, x86_21, x86_24, x86_25, fcn_114_0, fcn_133_0, (fcnO_66_2 ho), if_true, if_false, eq_self, Int.reduceEq, Int.reduceLT, Int.reduceLE, Int.reduceAdd, Int.reduceSub, Int.reduceMul, Int.reduceToNat, Nat.reduceAdd, Nat.reduceMul, Nat.reduceEqDiff, Int.toNat_natCast, wrap_id, c2, hq, h3, isGr]
  · simp (disch := first | exact obC_114 | exact obC_133 | exact (obCO_66 ho) | omega | (simp only [aN1_115, (aN1O_69 ho)]; omega) | (simp only [List.length_cons, List.length_nil]; omega)) only [en86, x86_0, x86_1, x86_4, x86_7, x86_8, x86_11, x86_14, x86_15, x86_16, x86_17, x86_20, x86_21, x86_24, x86_25, fcn_114_0, fcn_133_0, (fcnO_66_2 ho), if_true, if_false, eq_self, Int.reduceEq, Int.reduceLT, Int.reduceLE, Int.reduceAdd, Int.reduceSub, Int.reduceMul, Int.reduceToNat, Nat.reduceAdd, Nat.reduceMul, Nat.reduceEqDiff, Int.toNat_natCast, wrap_id, c2, hq, h3, isGr, Bool.false_eq_true]
  · simp (disch := first | exact obC_114 | exact obC_133 | exact (obCO_66 ho) | omega | (simp only [aN1_115, (aN1O_69 ho)]; omega) | (simp only [List.length_cons, List.length_nil]; omega)) only [en86, x86_0, x86_1, x86_4, x86_7, x86_8, x86_11, x86_14, x86_15, x86_16, x86_17, x86_20, x86_21, x86_24, x86_25, fcn_114_0, fcn_133_0, (fcnO_66_2 ho), if_true, if_false, eq_self, Int.reduceEq, Int.reduceLT, Int.reduceLE, Int.reduceAdd, Int.reduceSub, Int.reduceMul, Int.reduceToNat, Nat.reduceAdd, Nat.reduceMul, Nat.reduceEqDiff, Int.toNat_natCast, wrap_id, c2, hq, h3, isGr, Bool.false_eq_true]
