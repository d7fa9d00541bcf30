/-- what is known of the open ? -/
def allT (st : List Fm) : Prop := ∀ f, f ∈ st → f.2.2.2 = true
def UT : Jvm.Term → List Fm → Prop
  | _, [] => True
  | now, f :: st => (f.2.2.2 = false → now = f.1 ∧ (f.2.1 = none ∨ f.2.1 = some f.1)) ∧ (f.2.2.2 = true → allT st) ∧ UT f.1 st
theorem UT_all : ∀ {st : List Fm} {now : Jvm.Term}, allT st → UT now st
  | [], _, _ => trivial
  | f :: st, _, h => ⟨fun z => by rw [h f List.mem_cons_self] at z; exact (nomatch z), fun _ g hg => h g (List.mem_cons_of_mem _ hg), UT_all (fun g hg => h g (List.mem_cons_of_mem _ hg))⟩
theorem allT_map (st : List Fm) : allT (st.map fmT) := by
  intro f hf
  obtain ⟨g, -, rfl⟩ := List.mem_map.mp hf
  rfl
theorem UT_close {now : Jvm.Term} {f : Fm} {st : List Fm} (h : UT now (f :: st)) : UT (fmC now f) st := by
  obtain ⟨h1, h2, h3⟩ := h
  cases hb : f.2.2.2 with
  | true => exact UT_all (h2 hb)
  | false =>
    have : fmC now f = f.1 := by
      unfold fmC
      rw [if_neg (by rw [hb]; decide)]
      exact (h1 hb).1
    rw [this]
    exact h3
/-- the reference's saved and active, from the innermost open ? outwards -/
def SA (s : Mem) : List Fm → Prop
  | [] => True
  | f :: st => s 51 st.length = b2i (ini f.1) ∧ s 50 st.length = b2i (match f.2.1 with | none => ini f.1 | some t => ini t) ∧ SA s st
theorem SA_put {s s' : Mem} : ∀ {st : List Fm}, (∀ k j, (k = 51 ∨ k = 50) → j < st.length → s' k j = s k j) → SA s st → SA s' st
  | [], _, _ => trivial
  | f :: st, g, h => ⟨by rw [g _ _ (Or.inl rfl) (Nat.lt_succ_self _)]; exact h.1, by rw [g _ _ (Or.inr rfl) (Nat.lt_succ_self _)]; exact h.2.1, SA_put (fun k j hk hj => g k j hk (Nat.lt_succ_of_lt hj)) h.2.2⟩
theorem SA_map {s : Mem} : ∀ {st : List Fm}, SA s st → SA s (st.map fmT)
  | [], _ => trivial
  | f :: st, h => by
    refine ⟨?_, ?_, SA_map h.2.2⟩
    · rw [List.length_map]; exact h.1
    · rw [List.length_map]; exact h.2.1
def FSA (k _j : Nat) : Prop := k = 51 ∨ k = 50
/-- an expression that is connected -/
def src0 (lo : List Lo) : Prop := ∀ (k : Nat) (x : Lo), lo[k]? = some x → x.1 = 0 → ini x.2.2 = true
theorem lwF_0 {g sk : Nat} {e now : Jvm.Term} {r : List Lo} {st : List Fm} : lwF g ((0, sk, e) :: r) now st = if sk = g then lwF g r e (st.map fmT) else lwF g r now st := rfl
theorem in_loop {d g : Nat} {lo : List Lo} (hl2 : lo.length ≤ 1100) (h0 : src0 lo) : ∀ (m k : Nat) (now : Jvm.Term) (st : List Fm) (s : Mem), k + m = lo.length → s 0 57 = lo.length → (∀ (j : Nat) (x : Lo), lo[j]? = some x → s 41 j = x.1 ∧ (x.1 = 0 → s 42 j = x.2.1)) → wfL st.length (lo.drop k) → st.length ≤ 3 → SA s st → UT now st →
    ∃ s', Ze d 41 7 [aR 0, aI g, aI st.length, aI (b2i (ini now)), aI k] [] s = rI (b2i (ini (lwF g (lo.drop k) now st))) s' ∧ Fr FSA s s' := by
  intro m
  induction m with
  | zero =>
    intro k now st s hk hs hlo hw h3 hSA hUT
    refine ⟨s, ?_, Fr.rf s⟩
    have hd : lo.drop k = [] := List.drop_eq_nil_of_le (by omega)
    rw [hd, x41_7]
    unfold lwF
    have hb : b2i (ini now) = 0 ∨ b2i (ini now) = 1 := by unfold b2i; split <;> simp
    generalize b2i (ini now) = b at *
    rcases hb with rfl | rfl
    · simp (disch := first | exact obC_0 | omega | (simp only [aN1_41, aN1_42, aN2_50, aN2_51]; omega) | (simp only [List.length_cons, List.length_nil]; omega)) only [en41, x41_0, x41_1, x41_2, x41_3, x41_4, x41_5, x41_9, x41_10, x41_13, x41_16, x41_17, x41_20, x41_22, x41_23, x41_48, x41_49, x41_52, x41_54, x41_55, x41_56, x41_59, x41_60, x41_61, x41_64, x41_65, x41_68, x41_69, x41_70, x41_71, x41_72, x41_75, x41_76, x41_77, x41_78, x41_81, x41_84, x41_85, x41_88, x41_89, x41_90, x41_91, x41_92, x41_93, x41_94, x41_97, x41_98, x41_99, x41_100, x41_101, x41_102, x41_105, x41_108, x41_109, x41_112, x41_113, x41_114, x41_117, x41_118, x41_121, x41_122, x41_125, x41_126, x41_127, x41_130, x41_133, x41_134, fcn_0_54, fcn_0_55, fcn_0_65, fcn_0_66, if_true, if_false, eq_self, Int.reduceEq, Int.reduceLT, Int.reduceLE, Int.reduceAdd, Int.reduceSub, Int.reduceMul, Int.reduceToNat, Nat.reduceAdd, Nat.reduceMul, Nat.reduceEqDiff, Int.toNat_natCast, wrap_id, hs, if_neg (show ¬ (k : Int) < lo.length by omega)]
    · simp (disch := first | exact obC_0 | omega | (simp only [aN1_41, aN1_42, aN2_50, aN2_51]; omega) | (simp only [List.length_cons, List.length_nil]; omega)) only [en41, x41_0, x41_1, x41_2, x41_3, x41_4, x41_5, x41_9, x41_10, x41_13, x41_16, x41_17, x41_20, x41_22, x41_23, x41_48, x41_49, x41_52, x41_54, x41_55, x41_56, x41_59, x41_60, x41_61, x41_64, x41_65, x41_68, x41_69, x41_70, x41_71, x41_72, x41_75, x41_76, x41_77, x41_78, x41_81, x41_84, x41_85, x41_88, x41_89, x41_90, x41_91, x41_92, x41_93, x41_94, x41_97, x41_98, x41_99, x41_100, x41_101, x41_102, x41_105, x41_108, x41_109, x41_112, x41_113, x41_114, x41_117, x41_118, x41_121, x41_122, x41_125, x41_126, x41_127, x41_130, x41_133, x41_134, fcn_0_54, fcn_0_55, fcn_0_65, fcn_0_66, if_true, if_false, eq_self, Int.reduceEq, Int.reduceLT, Int.reduceLE, Int.reduceAdd, Int.reduceSub, Int.reduceMul, Int.reduceToNat, Nat.reduceAdd, Nat.reduceMul, Nat.reduceEqDiff, Int.toNat_natCast, wrap_id, hs, if_neg (show ¬ (k : Int) < lo.length by omega)]
  | succ m ih =>
    intro k now st s hk hs hlo hw h3 hSA hUT
    have hkl : k < lo.length := by omega
    obtain ⟨x, hx⟩ : ∃ x, lo[k]? = some x := ⟨_, List.getElem?_eq_getElem hkl⟩
    have hdr : lo.drop k = x :: lo.drop (k + 1) := by
      rw [List.drop_eq_getElem_cons hkl]
      have := List.getElem?_eq_getElem hkl
      rw [hx] at this
      cases this
      rfl
    obtain ⟨z1, z2⟩ := hlo k x hx
    have hini := h0 k x hx
    obtain ⟨o, sk, e⟩ := x
    dsimp only at z1 z2 hini
    rw [hdr] at hw ⊢
    have hlt : (k : Int) < lo.length := by omega
    have ek : ((k + 1 : Nat) : Int) = (k : Int) + 1 := by omega
    have hfin : ∀ (now' : Jvm.Term) (st' : List Fm) (s1 : Mem), Ze d 41 7 [aR 0, aI g, aI st.length, aI (b2i (ini now)), aI k] [] s = Ze d 41 7 [aR 0, aI g, aI st'.length, aI (b2i (ini now')), aI ((k + 1 : Nat) : Int)] [] s1 → lwF g ((o, sk, e) :: lo.drop (k + 1)) now st = lwF g (lo.drop (k + 1)) now' st' → Fr FSA s s1 → wfL st'.length (lo.drop (k + 1)) → st'.length ≤ 3 → SA s1 st' → UT now' st' →
        ∃ s', Ze d 41 7 [aR 0, aI g, aI st.length, aI (b2i (ini now)), aI k] [] s = rI (b2i (ini (lwF g ((o, sk, e) :: lo.drop (k + 1)) now st))) s' ∧ Fr FSA s s' := by
      intro now' st' s1 hz hl hf hw' h3' hSA' hUT'
      have fk : ∀ {c j : Nat}, c ≠ 51 → c ≠ 50 → s1 c j = s c j := fun h1 h2 => hf _ _ (fun z => z.elim h1 h2)
      obtain ⟨s', q1, q2⟩ := ih (k + 1) now' st' s1 (by omega) (by rw [fk (by decide) (by decide), hs]) (fun j y hy => by rw [fk (by decide) (by decide), fk (by decide) (by decide)]; exact hlo j y hy) hw' h3' hSA' hUT'
      rw [hl]
      exact ⟨s', hz.trans q1, hf.tr q2⟩
    match o, z1, z2, hini, hw, hfin with
    | 0, z1, z2, hini, hw, hfin =>
      have z1 : s 41 k = 0 := z1
      have z2 := z2 rfl
      have hi := hini rfl
      have hw : wfL st.length (lo.drop (k + 1)) := hw
      by_cases hg : sk = g
      · refine hfin e (st.map fmT) s ?_ (by rw [lwF_0, if_pos hg]) (Fr.rf s) (by rw [List.length_map]; exact hw) (by rw [List.length_map]; exact h3) (SA_map hSA) (UT_all (allT_map st))
        rw [List.length_map, hi, show b2i true = 1 from rfl, ek, x41_7]
        rw [hg] at z2
        simp (disch := first | exact obC_0 | omega | (simp only [aN1_41, aN1_42, aN2_50, aN2_51]; omega) | (simp only [List.length_cons, List.length_nil]; omega)) only [en41, x41_0, x41_1, x41_2, x41_3, x41_4, x41_5, x41_9, x41_10, x41_13, x41_16, x41_17, x41_20, x41_22, x41_23, x41_48, x41_49, x41_52, x41_54, x41_55, x41_56, x41_59, x41_60, x41_61, x41_64, x41_65, x41_68, x41_69, x41_70, x41_71, x41_72, x41_75, x41_76, x41_77, x41_78, x41_81, x41_84, x41_85, x41_88, x41_89, x41_90, x41_91, x41_92, x41_93, x41_94, x41_97, x41_98, x41_99, x41_100, x41_101, x41_102, x41_105, x41_108, x41_109, x41_112, x41_113, x41_114, x41_117, x41_118, x41_121, x41_122, x41_125, x41_126, x41_127, x41_130, x41_133, x41_134, fcn_0_54, fcn_0_55, fcn_0_65, fcn_0_66, if_true, if_false, eq_self, Int.reduceEq, Int.reduceLT, Int.reduceLE, Int.reduceAdd, Int.reduceSub, Int.reduceMul, Int.reduceToNat, Nat.reduceAdd, Nat.reduceMul, Nat.reduceEqDiff, Int.toNat_natCast, wrap_id, hs, if_pos hlt, z1, z2]
      · refine hfin now st s ?_ (by rw [lwF_0, if_neg hg]) (Fr.rf s) hw h3 hSA hUT
        rw [ek, x41_7]
        simp (disch := first | exact obC_0 | omega | (simp only [aN1_41, aN1_42, aN2_50, aN2_51]; omega) | (simp only [List.length_cons, List.length_nil]; omega)) only [en41, x41_0, x41_1, x41_2, x41_3, x41_4, x41_5, x41_9, x41_10, x41_13, x41_16, x41_17, x41_20, x41_22, x41_23, x41_48, x41_49, x41_52, x41_54, x41_55, x41_56, x41_59, x41_60, x41_61, x41_64, x41_65, x41_68, x41_69, x41_70, x41_71, x41_72, x41_75, x41_76, x41_77, x41_78, x41_81, x41_84, x41_85, x41_88, x41_89, x41_90, x41_91, x41_92, x41_93, x41_94, x41_97, x41_98, x41_99, x41_100, x41_101, x41_102, x41_105, x41_108, x41_109, x41_112, x41_113, x41_114, x41_117, x41_118, x41_121, x41_122, x41_125, x41_126, x41_127, x41_130, x41_133, x41_134, fcn_0_54, fcn_0_55, fcn_0_65, fcn_0_66, if_true, if_false, eq_self, Int.reduceEq, Int.reduceLT, Int.reduceLE, Int.reduceAdd, Int.reduceSub, Int.reduceMul, Int.reduceToNat, Nat.reduceAdd, Nat.reduceMul, Nat.reduceEqDiff, Int.toNat_natCast, wrap_id, hs, if_pos hlt, z1, z2, if_neg (show ¬ (sk : Int) = g by omega)]
    | 1, z1, z2, hini, hw, hfin =>
      have z1 : s 41 k = 1 := z1
      obtain ⟨hw1, hw2⟩ := hw
      generalize hs1 : mu (mu s 51 st.length (b2i (ini now))) 50 st.length (b2i (ini now)) = s1
      have hb : b2i (ini now) = 0 ∨ b2i (ini now) = 1 := by unfold b2i; split <;> simp
      refine hfin now ((now, none, e, false) :: st) s1 ?_ rfl ?_ hw2 (by rw [List.length_cons]; omega) ⟨?_, ?_, ?_⟩ ⟨fun _ => ⟨rfl, Or.inl rfl⟩, fun z => (nomatch z), hUT⟩
      · rw [List.length_cons, show ((st.length + 1 : Nat) : Int) = (st.length : Int) + 1 from rfl, ek, x41_7]
        generalize b2i (ini now) = b at *
        rcases hb with rfl | rfl
        · simp (disch := first | exact obC_0 | omega | (simp only [aN1_41, aN1_42, aN2_50, aN2_51]; omega) | (simp only [List.length_cons, List.length_nil]; omega)) only [en41, x41_0, x41_1, x41_2, x41_3, x41_4, x41_5, x41_9, x41_10, x41_13, x41_16, x41_17, x41_20, x41_22, x41_23, x41_48, x41_49, x41_52, x41_54, x41_55, x41_56, x41_59, x41_60, x41_61, x41_64, x41_65, x41_68, x41_69, x41_70, x41_71, x41_72, x41_75, x41_76, x41_77, x41_78, x41_81, x41_84, x41_85, x41_88, x41_89, x41_90, x41_91, x41_92, x41_93, x41_94, x41_97, x41_98, x41_99, x41_100, x41_101, x41_102, x41_105, x41_108, x41_109, x41_112, x41_113, x41_114, x41_117, x41_118, x41_121, x41_122, x41_125, x41_126, x41_127, x41_130, x41_133, x41_134, fcn_0_54, fcn_0_55, fcn_0_65, fcn_0_66, if_true, if_false, eq_self, Int.reduceEq, Int.reduceLT, Int.reduceLE, Int.reduceAdd, Int.reduceSub, Int.reduceMul, Int.reduceToNat, Nat.reduceAdd, Nat.reduceMul, Nat.reduceEqDiff, Int.toNat_natCast, wrap_id, hs, if_pos hlt, z1, hs1]
        · simp (disch := first | exact obC_0 | omega | (simp only [aN1_41, aN1_42, aN2_50, aN2_51]; omega) | (simp only [List.length_cons, List.length_nil]; omega)) only [en41, x41_0, x41_1, x41_2, x41_3, x41_4, x41_5, x41_9, x41_10, x41_13, x41_16, x41_17, x41_20, x41_22, x41_23, x41_48, x41_49, x41_52, x41_54, x41_55, x41_56, x41_59, x41_60, x41_61, x41_64, x41_65, x41_68, x41_69, x41_70, x41_71, x41_72, x41_75, x41_76, x41_77, x41_78, x41_81, x41_84, x41_85, x41_88, x41_89, x41_90, x41_91, x41_92, x41_93, x41_94, x41_97, x41_98, x41_99, x41_100, x41_101, x41_102, x41_105, x41_108, x41_109, x41_112, x41_113, x41_114, x41_117, x41_118, x41_121, x41_122, x41_125, x41_126, x41_127, x41_130, x41_133, x41_134, fcn_0_54, fcn_0_55, fcn_0_65, fcn_0_66, if_true, if_false, eq_self, Int.reduceEq, Int.reduceLT, Int.reduceLE, Int.reduceAdd, Int.reduceSub, Int.reduceMul, Int.reduceToNat, Nat.reduceAdd, Nat.reduceMul, Nat.reduceEqDiff, Int.toNat_natCast, wrap_id, hs, if_pos hlt, z1, hs1]
      · rw [← hs1]
        exact Fr.mu (S := FSA) (Fr.mu (S := FSA) (Fr.rf s) (Or.inl rfl)) (Or.inr rfl)
      · rw [← hs1, mu_c (by decide), mu_s]
      · rw [← hs1, mu_s]
      · exact SA_put (fun c j hc hj => by rw [← hs1, mu_i (by omega), mu_i (by omega)]) hSA
    | 2, z1, z2, hini, hw, hfin =>
      have z1 : s 41 k = 2 := z1
      obtain ⟨hw1, hw2⟩ := hw
      cases st with
      | nil => exact absurd hw1 (by decide)
      | cons f st =>
        rw [List.length_cons] at hw2 h3
        obtain ⟨a1, a2, a3⟩ := hSA
        obtain ⟨u1, u2, u3⟩ := hUT
        generalize hs1 : mu s 50 st.length (b2i (ini now)) = s1
        have hsv1 : s1 51 st.length = b2i (ini f.1) := by rw [← hs1, mu_c (by decide), a1]
        have hb : b2i (ini now) = 0 ∨ b2i (ini now) = 1 := by unfold b2i; split <;> simp
        have e1 : (((st.length : Int) + 1) - 1).toNat = st.length := by omega
        refine hfin f.1 ((f.1, some now, f.2.2.1, f.2.2.2) :: st) s1 ?_ rfl ?_ hw2 (by rw [List.length_cons]; omega) ⟨hsv1, ?_, ?_⟩ ⟨fun z => ⟨rfl, Or.inr (by rw [(u1 z).1])⟩, u2, u3⟩
        · rw [List.length_cons, List.length_cons, show ((st.length + 1 : Nat) : Int) = (st.length : Int) + 1 from rfl, ek, x41_7]
          generalize b2i (ini now) = b at *
          rcases hb with rfl | rfl
          · simp (disch := first | exact obC_0 | omega | (simp only [aN1_41, aN1_42, aN2_50, aN2_51]; omega) | (simp only [List.length_cons, List.length_nil]; omega)) only [en41, x41_0, x41_1, x41_2, x41_3, x41_4, x41_5, x41_9, x41_10, x41_13, x41_16, x41_17, x41_20, x41_22, x41_23, x41_48, x41_49, x41_52, x41_54, x41_55, x41_56, x41_59, x41_60, x41_61, x41_64, x41_65, x41_68, x41_69, x41_70, x41_71, x41_72, x41_75, x41_76, x41_77, x41_78, x41_81, x41_84, x41_85, x41_88, x41_89, x41_90, x41_91, x41_92, x41_93, x41_94, x41_97, x41_98, x41_99, x41_100, x41_101, x41_102, x41_105, x41_108, x41_109, x41_112, x41_113, x41_114, x41_117, x41_118, x41_121, x41_122, x41_125, x41_126, x41_127, x41_130, x41_133, x41_134, fcn_0_54, fcn_0_55, fcn_0_65, fcn_0_66, if_true, if_false, eq_self, Int.reduceEq, Int.reduceLT, Int.reduceLE, Int.reduceAdd, Int.reduceSub, Int.reduceMul, Int.reduceToNat, Nat.reduceAdd, Nat.reduceMul, Nat.reduceEqDiff, Int.toNat_natCast, wrap_id, hs, if_pos hlt, z1, e1, hs1, hsv1]
          · simp (disch := first | exact obC_0 | omega | (simp only [aN1_41, aN1_42, aN2_50, aN2_51]; omega) | (simp only [List.length_cons, List.length_nil]; omega)) only [en41, x41_0, x41_1, x41_2, x41_3, x41_4, x41_5, x41_9, x41_10, x41_13, x41_16, x41_17, x41_20, x41_22, x41_23, x41_48, x41_49, x41_52, x41_54, x41_55, x41_56, x41_59, x41_60, x41_61, x41_64, x41_65, x41_68, x41_69, x41_70, x41_71, x41_72, x41_75, x41_76, x41_77, x41_78, x41_81, x41_84, x41_85, x41_88, x41_89, x41_90, x41_91, x41_92, x41_93, x41_94, x41_97, x41_98, x41_99, x41_100, x41_101, x41_102, x41_105, x41_108, x41_109, x41_112, x41_113, x41_114, x41_117, x41_118, x41_121, x41_122, x41_125, x41_126, x41_127, x41_130, x41_133, x41_134, fcn_0_54, fcn_0_55, fcn_0_65, fcn_0_66, if_true, if_false, eq_self, Int.reduceEq, Int.reduceLT, Int.reduceLE, Int.reduceAdd, Int.reduceSub, Int.reduceMul, Int.reduceToNat, Nat.reduceAdd, Nat.reduceMul, Nat.reduceEqDiff, Int.toNat_natCast, wrap_id, hs, if_pos hlt, z1, e1, hs1, hsv1]
        · rw [← hs1]
          exact Fr.mu (S := FSA) (Fr.rf s) (Or.inr rfl)
        · rw [← hs1, mu_s]
        · exact SA_put (fun c j hc hj => by rw [← hs1, mu_i (by omega)]) a3
    | 3, z1, z2, hini, hw, hfin =>
      have z1 : s 41 k = 3 := z1
      obtain ⟨hw1, hw2⟩ := hw
      cases st with
      | nil => exact absurd hw1 (by decide)
      | cons f st =>
        rw [List.length_cons] at hw2 h3
        obtain ⟨a1, a2, a3⟩ := hSA
        have hU := UT_close hUT
        obtain ⟨u1, u2, u3⟩ := hUT
        have hcl : ini (fmC now f) = ((match f.2.1 with | none => ini f.1 | some t => ini t) && ini now) := by
          unfold fmC
          cases hb : f.2.2.2 with
          | true =>
            rw [if_pos rfl]
            cases f.2.1 with
            | none => simp only [chc, ini, Bool.and_comm]
            | some t => simp only [chc, ini]
          | false =>
            rw [if_neg (by decide)]
            obtain ⟨w1, w2 | w2⟩ := u1 hb
            · rw [w2, w1]; simp
            · rw [w2, w1]; simp
        have hact : s 50 st.length = 0 ∨ s 50 st.length = 1 := by rw [a2]; unfold b2i; split <;> simp
        have e1 : (st.length : Int) + 1 + -1 = st.length := by omega
        refine hfin (fmC now f) st s ?_ rfl (Fr.rf s) hw2 (by omega) a3 hU
        rw [hcl, List.length_cons, show ((st.length + 1 : Nat) : Int) = (st.length : Int) + 1 from rfl, ek, x41_7]
        generalize (match f.2.1 with | none => ini f.1 | some t => ini t) = x1 at *
        cases x1
        · have a2 : s 50 st.length = 0 := a2
          rw [Bool.false_and, show b2i false = 0 from rfl]
          simp (disch := first | exact obC_0 | omega | (simp only [aN1_41, aN1_42, aN2_50, aN2_51]; omega) | (simp only [List.length_cons, List.length_nil]; omega)) only [en41, x41_0, x41_1, x41_2, x41_3, x41_4, x41_5, x41_9, x41_10, x41_13, x41_16, x41_17, x41_20, x41_22, x41_23, x41_48, x41_49, x41_52, x41_54, x41_55, x41_56, x41_59, x41_60, x41_61, x41_64, x41_65, x41_68, x41_69, x41_70, x41_71, x41_72, x41_75, x41_76, x41_77, x41_78, x41_81, x41_84, x41_85, x41_88, x41_89, x41_90, x41_91, x41_92, x41_93, x41_94, x41_97, x41_98, x41_99, x41_100, x41_101, x41_102, x41_105, x41_108, x41_109, x41_112, x41_113, x41_114, x41_117, x41_118, x41_121, x41_122, x41_125, x41_126, x41_127, x41_130, x41_133, x41_134, fcn_0_54, fcn_0_55, fcn_0_65, fcn_0_66, if_true, if_false, eq_self, Int.reduceEq, Int.reduceLT, Int.reduceLE, Int.reduceAdd, Int.reduceSub, Int.reduceMul, Int.reduceToNat, Nat.reduceAdd, Nat.reduceMul, Nat.reduceEqDiff, Int.toNat_natCast, wrap_id, hs, if_pos hlt, z1, e1, a2]
        · have a2 : s 50 st.length = 1 := a2
          rw [Bool.true_and]
          cases ini now
          · rw [show b2i false = 0 from rfl]
            simp (disch := first | exact obC_0 | omega | (simp only [aN1_41, aN1_42, aN2_50, aN2_51]; omega) | (simp only [List.length_cons, List.length_nil]; omega)) only [en41, x41_0, x41_1, x41_2, x41_3, x41_4, x41_5, x41_9, x41_10, x41_13, x41_16, x41_17, x41_20, x41_22, x41_23, x41_48, x41_49, x41_52, x41_54, x41_55, x41_56, x41_59, x41_60, x41_61, x41_64, x41_65, x41_68, x41_69, x41_70, x41_71, x41_72, x41_75, x41_76, x41_77, x41_78, x41_81, x41_84, x41_85, x41_88, x41_89, x41_90, x41_91, x41_92, x41_93, x41_94, x41_97, x41_98, x41_99, x41_100, x41_101, x41_102, x41_105, x41_108, x41_109, x41_112, x41_113, x41_114, x41_117, x41_118, x41_121, x41_122, x41_125, x41_126, x41_127, x41_130, x41_133, x41_134, fcn_0_54, fcn_0_55, fcn_0_65, fcn_0_66, if_true, if_false, eq_self, Int.reduceEq, Int.reduceLT, Int.reduceLE, Int.reduceAdd, Int.reduceSub, Int.reduceMul, Int.reduceToNat, Nat.reduceAdd, Nat.reduceMul, Nat.reduceEqDiff, Int.toNat_natCast, wrap_id, hs, if_pos hlt, z1, e1, a2]
          · rw [show b2i true = 1 from rfl]
            simp (disch := first | exact obC_0 | omega | (simp only [aN1_41, aN1_42, aN2_50, aN2_51]; omega) | (simp only [List.length_cons, List.length_nil]; omega)) only [en41, x41_0, x41_1, x41_2, x41_3, x41_4, x41_5, x41_9, x41_10, x41_13, x41_16, x41_17, x41_20, x41_22, x41_23, x41_48, x41_49, x41_52, x41_54, x41_55, x41_56, x41_59, x41_60, x41_61, x41_64, x41_65, x41_68, x41_69, x41_70, x41_71, x41_72, x41_75, x41_76, x41_77, x41_78, x41_81, x41_84, x41_85, x41_88, x41_89, x41_90, x41_91, x41_92, x41_93, x41_94, x41_97, x41_98, x41_99, x41_100, x41_101, x41_102, x41_105, x41_108, x41_109, x41_112, x41_113, x41_114, x41_117, x41_118, x41_121, x41_122, x41_125, x41_126, x41_127, x41_130, x41_133, x41_134, fcn_0_54, fcn_0_55, fcn_0_65, fcn_0_66, if_true, if_false, eq_self, Int.reduceEq, Int.reduceLT, Int.reduceLE, Int.reduceAdd, Int.reduceSub, Int.reduceMul, Int.reduceToNat, Nat.reduceAdd, Nat.reduceMul, Nat.reduceEqDiff, Int.toNat_natCast, wrap_id, hs, if_pos hlt, z1, e1, a2]
    | o + 4, z1, z2, hini, hw, hfin => exact absurd hw (by unfold wfL; exact id)
theorem t_isInit {d g : Nat} {lo : List Lo} {s : Mem} (hd : 1 ≤ d) (hl2 : lo.length ≤ 1100) (h0 : src0 lo) (hs : s 0 57 = lo.length) (hlo : ∀ (j : Nat) (x : Lo), lo[j]? = some x → s 41 j = x.1 ∧ (x.1 = 0 → s 42 j = x.2.1)) (hw : wfL 0 lo) : ∃ s', Zc d 41 [aR 0, aI g] s = rI (b2i (ini (lwF g lo .null []))) s' ∧ Fr FSA s s' := by
  obtain ⟨d, rfl⟩ : ∃ e, d = e + 1 := ⟨d - 1, by omega⟩
  obtain ⟨s', q1, q2⟩ := in_loop (d := d) (g := g) hl2 h0 lo.length 0 .null [] s (Nat.zero_add _) hs hlo hw (Nat.zero_le _) trivial trivial
  refine ⟨s', Eq.trans ?_ q1, q2⟩
  have z0 : ((([] : List Fm).length : Nat) : Int) = 0 := rfl
  have z1 : ((0 : Nat) : Int) = 0 := rfl
  rw [z0, z1, show b2i (ini .null) = 0 from rfl]
  simp (disch := first | exact obC_0 | omega | (simp only [aN1_41, aN1_42, aN2_50, aN2_51]; omega) | (simp only [List.length_cons, List.length_nil]; omega)) only [en41, x41_0, x41_1, x41_2, x41_3, x41_4, x41_5, x41_9, x41_10, x41_13, x41_16, x41_17, x41_20, x41_22, x41_23, x41_48, x41_49, x41_52, x41_54, x41_55, x41_56, x41_59, x41_60, x41_61, x41_64, x41_65, x41_68, x41_69, x41_70, x41_71, x41_72, x41_75, x41_76, x41_77, x41_78, x41_81, x41_84, x41_85, x41_88, x41_89, x41_90, x41_91, x41_92, x41_93, x41_94, x41_97, x41_98, x41_99, x41_100, x41_101, x41_102, x41_105, x41_108, x41_109, x41_112, x41_113, x41_114, x41_117, x41_118, x41_121, x41_122, x41_125, x41_126, x41_127, x41_130, x41_133, x41_134, fcn_0_54, fcn_0_55, fcn_0_65, fcn_0_66, if_true, if_false, eq_self, Int.reduceEq, Int.reduceLT, Int.reduceLE, Int.reduceAdd, Int.reduceSub, Int.reduceMul, Int.reduceToNat, Nat.reduceAdd, Nat.reduceMul, Nat.reduceEqDiff, Int.toNat_natCast, wrap_id]
