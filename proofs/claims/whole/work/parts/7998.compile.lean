theorem MF_w {s s' : Mem} {N : Nat} (f : Fr (MF N) s s') : s' 0 3 = s 0 3 := MF_k f (by decide)
theorem CKE_put {s s' : Mem} {N : Nat} {cv : List (Option Jvm.Term)} {sg : List Sg} {lo : List Lo} (hN : N ≤ 220) (g : ∀ k j, (12 ≤ k ∧ k ≤ 19 ∨ 35 ≤ k ∧ k ≤ 39 ∨ 41 ≤ k ∧ k ≤ 43 ∨ (k = 0 ∧ (j = 50 ∨ j = 57 ∨ j = 58))) → s' k j = s k j) (h : CKE s N cv sg lo) : CKE s' N cv sg lo := by
  obtain ⟨c1, c2, c3, c4, c5, c6, c7, c8⟩ := h
  have A : AR s s' 0 N := fun k j hk _ _ => g k j (by omega)
  exact ⟨by rw [g _ _ (by decide), c1], c2, SGs_put (Nat.le_refl _) A (fun c i hc _ => g c i (by omega)) c3, by rw [g _ _ (by decide), c4], c5, LOs_put (Nat.le_refl _) A (fun c i hc _ => g c i (by omega)) c6, by rw [g _ _ (by decide), c7], CVs_put cv 0 N A c8⟩
theorem CB_of {N : Nat} {cv : List (Option Jvm.Term)} {sg : List Sg} {lo : List Lo} {W : Nat → Nat} {s : Mem} (hN : N ≤ 200) (hR : RUN sg lo) (h : CKE s N cv (sgW sg W) lo) : CB s sg lo := by
  obtain ⟨c1, c2, c3, c4, c5, c6, c7, c8⟩ := h
  rw [sgW_len] at c1 c2
  refine ⟨c1, c2, c4, c5, fun j x hx => ?_, fun g x hx => ?_⟩
  · obtain ⟨z1, z2, z3⟩ := c6 j x hx
    refine ⟨z1, fun z => ⟨(z2 z).1, ?_⟩, fun z => ?_⟩
    · exact (z2 z).2.2.imp id (fun ⟨n, y1, y2, y3⟩ => ⟨n, y1, y2, by omega⟩)
    · obtain ⟨n, y1, y2, y3⟩ := z3 z
      exact ⟨n, y1, y2, by omega⟩
  · have hx' : (sgW sg W)[g]? = some (x.1, x.2.1, x.2.2.1, W g, x.2.2.2.2) := by
      unfold sgW
      rw [List.getElem?_mapIdx, hx]
      rfl
    obtain ⟨z1, z2, z3, z4, z5⟩ := c3 g _ hx'
    obtain ⟨r1, r2⟩ := hR.2.2.2 g x hx
    refine ⟨z1, z3, ?_⟩
    rcases z5 with ⟨y1, y2⟩ | ⟨n, y1, y2, y3⟩
    · exact Or.inr ⟨fun z => r1.mp z y1, y2⟩
    · exact Or.inl ⟨r1.mpr (fun z => by dsimp only at y2; rw [z] at y2; exact y2), n, y1, y2, by dsimp only at y3; omega⟩
theorem t_compile {d : Nat} (hd : 11 ≤ d) (s : Mem) (ho : okT s) (hS : OKS (tx s)) : CMR s (Zc d 46 [aR 0] s) := by
  obtain ⟨d, rfl⟩ : ∃ e, d = e + 1 := ⟨d - 1, by omega⟩
  generalize hs0 : mu s 0 3 (-2) = s0
  have F0 : Fr CPF s s0 := by rw [← hs0]; exact (Fr.rf s).mu (Or.inl (by decide))
  have x0 : tx s0 = tx s := F0.tx CPF_len CPF_txt
  have o0 : okT s0 := F0.okT CPF_len CPF_txt ho
  have w0 : s0 0 3 = -2 := by rw [← hs0, mu_s]
  have hp := t_parse (d := d) (by omega) s0 o0
  rw [x0] at hp
  cases hq : pAll (tx s) with
  | error p =>
    rw [hq] at hp
    obtain ⟨s1, h1, h2, h3, h4⟩ := hp
    refine CMR_fail (w := p) (th := 1) ho (by unfold CMP; rw [hq]; exact ⟨rfl, rfl, rfl⟩) h3 (F0.tr (h4.mono (fun _ _ => PFX_CPF))) ?_
    simp (disch := first | exact obC_0 | omega | (simp only [aN1_35, aN1_40]; omega) | (simp only [List.length_cons, List.length_nil]; omega)) only [en46, x46_0, x46_1, x46_3, x46_6, x46_7, x46_10, x46_11, x46_14, x46_17, x46_18, x46_19, x46_22, x46_23, x46_24, x46_27, x46_28, x46_29, x46_32, x46_33, x46_34, x46_37, x46_38, x46_39, x46_42, x46_43, x46_44, x46_47, x46_48, x46_49, x46_52, x46_53, x46_54, x46_57, x46_58, x46_59, x46_62, x46_63, x46_64, x46_66, x46_67, x46_70, x46_73, x46_74, x46_75, x46_78, x46_81, x46_82, x46_85, x46_86, x46_87, x46_88, x46_91, x46_92, x46_93, x46_96, x46_99, x46_100, x46_103, x46_104, x46_106, x46_108, x46_111, x46_114, x46_115, x46_116, x46_119, x46_120, x46_121, x46_124, x46_125, x46_128, x46_131, x46_132, x46_134, x46_135, x46_138, x46_141, x46_142, x46_145, x46_146, x46_147, x46_148, x46_151, x46_154, x46_155, x46_158, x46_159, x46_160, x46_161, x46_164, x46_165, x46_166, x46_169, x46_172, x46_173, x46_174, x46_177, x46_180, x46_181, x46_184, x46_185, x46_186, x46_189, x46_190, x46_191, x46_194, x46_195, x46_196, x46_199, x46_200, x46_201, x46_202, x46_205, x46_206, x46_209, x46_210, x46_213, x46_214, x46_217, fcn_0_44, fcn_0_49, if_true, if_false, eq_self, Int.reduceEq, Int.reduceLT, Int.reduceLE, Int.reduceAdd, Int.reduceSub, Int.reduceMul, Int.reduceToNat, Nat.reduceAdd, Nat.reduceMul, Nat.reduceEqDiff, Int.toNat_natCast, wrap_id, hs0, h1, zcV_r, h2, t_fail (d := d) (by omega), zcI_r]
  | ok its =>
    rw [hq] at hp
    obtain ⟨s1, N, M, C, h1, hb, hwh, hR, hst, hnd, ⟨hN, hM, hC, hI⟩, h8⟩ := hp
    obtain ⟨hi, hw, hS2⟩ := hS its hq
    have F1 : Fr CPF s s1 := F0.tr (h8.mono (fun _ _ => PFX_CPF))
    have hc := t_check (d := d) (N := N) (M := M) (C := C) (its := its) (s := s1) (by omega) hM (by omega) hN (by omega) hst hR hi hw
    have S1 : ∀ (r : Int) (s2 : Mem), Zc d 36 [aR 0] s1 = rI r s2 → Zc (d + 1) 46 [aR 0] s = Ze d 46 28 [aR 0, aI r, aU, aU, aU] [] s2 := fun r s2 hz => by
      simp (disch := first | exact obC_0 | omega | (simp only [aN1_35, aN1_40]; omega) | (simp only [List.length_cons, List.length_nil]; omega)) only [en46, x46_0, x46_1, x46_3, x46_6, x46_7, x46_10, x46_11, x46_14, x46_17, x46_18, x46_19, x46_22, x46_23, x46_24, x46_27, x46_29, x46_32, x46_33, x46_34, x46_37, x46_38, x46_39, x46_42, x46_43, x46_44, x46_47, x46_48, x46_49, x46_52, x46_53, x46_54, x46_57, x46_58, x46_59, x46_62, x46_63, x46_64, x46_66, x46_67, x46_70, x46_73, x46_74, x46_75, x46_78, x46_81, x46_82, x46_85, x46_86, x46_87, x46_88, x46_91, x46_92, x46_93, x46_96, x46_99, x46_100, x46_103, x46_104, x46_106, x46_108, x46_111, x46_114, x46_115, x46_116, x46_119, x46_120, x46_121, x46_124, x46_125, x46_128, x46_131, x46_132, x46_134, x46_135, x46_138, x46_141, x46_142, x46_145, x46_146, x46_147, x46_148, x46_151, x46_154, x46_155, x46_158, x46_159, x46_160, x46_161, x46_164, x46_165, x46_166, x46_169, x46_172, x46_173, x46_174, x46_177, x46_180, x46_181, x46_184, x46_185, x46_186, x46_189, x46_190, x46_191, x46_194, x46_195, x46_196, x46_199, x46_200, x46_201, x46_202, x46_205, x46_206, x46_209, x46_210, x46_213, x46_214, x46_217, fcn_0_44, fcn_0_49, if_true, if_false, eq_self, Int.reduceEq, Int.reduceLT, Int.reduceLE, Int.reduceAdd, Int.reduceSub, Int.reduceMul, Int.reduceToNat, Nat.reduceAdd, Nat.reduceMul, Nat.reduceEqDiff, Int.toNat_natCast, wrap_id, hs0, h1, zcV_r, hb, hz, zcI_r]
    cases hq2 : ckA (fun _ => none) [] [] its with
    | error p =>
      rw [hq2] at hc
      obtain ⟨s2, c1, c2⟩ := hc
      refine CMR_fail (s1 := mu s2 0 3 (p : Int)) (w := p) (th := 2) ho (by unfold CMP; rw [hq]; dsimp only; rw [hq2]; exact ⟨rfl, rfl, rfl⟩) mu_s ((F1.tr (c2.mono (fun _ _ => CF_CPF hN))).mu (Or.inl (by decide))) ?_
      rw [S1 p s2 c1]
      simp (disch := first | exact obC_0 | omega | (simp only [aN1_35, aN1_40]; omega) | (simp only [List.length_cons, List.length_nil]; omega)) only [en46, x46_0, x46_1, x46_3, x46_6, x46_7, x46_10, x46_11, x46_14, x46_17, x46_18, x46_19, x46_22, x46_23, x46_24, x46_27, x46_28, x46_29, x46_32, x46_33, x46_34, x46_37, x46_38, x46_39, x46_42, x46_43, x46_44, x46_47, x46_48, x46_49, x46_52, x46_53, x46_54, x46_57, x46_58, x46_59, x46_62, x46_63, x46_64, x46_66, x46_67, x46_70, x46_73, x46_74, x46_75, x46_78, x46_81, x46_82, x46_85, x46_86, x46_87, x46_88, x46_91, x46_92, x46_93, x46_96, x46_99, x46_100, x46_103, x46_104, x46_106, x46_108, x46_111, x46_114, x46_115, x46_116, x46_119, x46_120, x46_121, x46_124, x46_125, x46_128, x46_131, x46_132, x46_134, x46_135, x46_138, x46_141, x46_142, x46_145, x46_146, x46_147, x46_148, x46_151, x46_154, x46_155, x46_158, x46_159, x46_160, x46_161, x46_164, x46_165, x46_166, x46_169, x46_172, x46_173, x46_174, x46_177, x46_180, x46_181, x46_184, x46_185, x46_186, x46_189, x46_190, x46_191, x46_194, x46_195, x46_196, x46_199, x46_200, x46_201, x46_202, x46_205, x46_206, x46_209, x46_210, x46_213, x46_214, x46_217, fcn_0_44, fcn_0_49, if_true, if_false, eq_self, Int.reduceEq, Int.reduceLT, Int.reduceLE, Int.reduceAdd, Int.reduceSub, Int.reduceMul, Int.reduceToNat, Nat.reduceAdd, Nat.reduceMul, Nat.reduceEqDiff, Int.toNat_natCast, wrap_id, if_neg (show ¬ (p : Int) < 0 by omega), t_fail (d := d) (by omega), zcI_r]
    | ok sl =>
      obtain ⟨sg, lo⟩ := sl
      rw [hq2] at hc
      obtain ⟨s2, c1, hCKE, c3⟩ := hc
      obtain ⟨hIX, hfl, hRUN, hs0', hwf⟩ := hS2 sg lo hq2
      have hcmp : ∀ (w th : Int) (live : Option Live), CMP (tx s) w th live ↔ (((¬ ∃ W, GW sg lo (cvA (fun _ => none) [] its) W) ∧ w = -1 ∧ th = 3 ∧ live = none) ∨
      ∃ W, GW sg lo (cvA (fun _ => none) [] its) W ∧
        ((∃ k : Nat, k < sg.length ∧ unset sg lo k ∧ (∀ j, j < k → ¬ unset sg lo j) ∧ w = k ∧ th = 4 ∧ live = none) ∨
         ((∀ j, j < sg.length → ¬ unset sg lo j) ∧
           ((∃ k : Nat, k < sg.length ∧ cyc (dpd sg lo) (rgs sg) k ∧ (∀ j, j < k → ¬ cyc (dpd sg lo) (rgs sg) j) ∧ w = k ∧ th = 5 ∧ live = none) ∨
            ((∀ j, j < sg.length → ¬ cyc (dpd sg lo) (rgs sg) j) ∧ w = -2 ∧ th = 0 ∧ live = some (sgW sg W, lo, W)))))) := fun w th live => by
        unfold CMP
        rw [hq]
        dsimp only
        rw [hq2]
      generalize cvA (fun _ => none) [] its = cv at *
      have F2 : Fr CPF s s2 := F1.tr (c3.mono (fun _ _ => CF_CPF hN))
      have nd2 : s2 0 32 = N := by rw [c3 _ _ (CF_no0 (by decide)), hnd]
      have S2 : ∀ (b : Int) (s3 : Mem), Zc d 40 [aR 0] s2 = rI b s3 → Zc (d + 1) 46 [aR 0] s = Ze d 46 48 [aR 0, aI (-1), aI b, aU, aU] [] s3 := fun b s3 hz => by
        rw [S1 (-1) s2 c1]
        simp (disch := first | exact obC_0 | omega | (simp only [aN1_35, aN1_40]; omega) | (simp only [List.length_cons, List.length_nil]; omega)) only [en46, x46_0, x46_1, x46_3, x46_6, x46_7, x46_10, x46_11, x46_14, x46_17, x46_18, x46_19, x46_22, x46_23, x46_24, x46_27, x46_28, x46_29, x46_32, x46_33, x46_34, x46_37, x46_38, x46_39, x46_42, x46_43, x46_44, x46_47, x46_49, x46_52, x46_53, x46_54, x46_57, x46_58, x46_59, x46_62, x46_63, x46_64, x46_66, x46_67, x46_70, x46_73, x46_74, x46_75, x46_78, x46_81, x46_82, x46_85, x46_86, x46_87, x46_88, x46_91, x46_92, x46_93, x46_96, x46_99, x46_100, x46_103, x46_104, x46_106, x46_108, x46_111, x46_114, x46_115, x46_116, x46_119, x46_120, x46_121, x46_124, x46_125, x46_128, x46_131, x46_132, x46_134, x46_135, x46_138, x46_141, x46_142, x46_145, x46_146, x46_147, x46_148, x46_151, x46_154, x46_155, x46_158, x46_159, x46_160, x46_161, x46_164, x46_165, x46_166, x46_169, x46_172, x46_173, x46_174, x46_177, x46_180, x46_181, x46_184, x46_185, x46_186, x46_189, x46_190, x46_191, x46_194, x46_195, x46_196, x46_199, x46_200, x46_201, x46_202, x46_205, x46_206, x46_209, x46_210, x46_213, x46_214, x46_217, fcn_0_44, fcn_0_49, if_true, if_false, eq_self, Int.reduceEq, Int.reduceLT, Int.reduceLE, Int.reduceAdd, Int.reduceSub, Int.reduceMul, Int.reduceToNat, Nat.reduceAdd, Nat.reduceMul, Nat.reduceEqDiff, Int.toNat_natCast, wrap_id, hz, zcI_r]
      rcases t_measure (d := d) (by omega) hN nd2 hCKE hIX hfl with ⟨s3, W, m1, hGW, hC3, hWE, nd3, m7⟩ | ⟨s3, m1, m2, m3⟩
      · have F3 : Fr CPF s s3 := F2.tr (m7.mono (fun _ _ => MF_CPF hN))
        have hCB := CB_of hN hRUN hC3
        have S3 : Zc (d + 1) 46 [aR 0] s = Ze d 46 65 [aR 0, aI (-1), aI 1, aI ((0 : Nat) : Int), aU] [] s3 := by
          rw [S2 1 s3 m1, show ((0 : Nat) : Int) = 0 from rfl]
          simp (disch := first | exact obC_0 | omega | (simp only [aN1_35, aN1_40]; omega) | (simp only [List.length_cons, List.length_nil]; omega)) only [en46, x46_0, x46_1, x46_3, x46_6, x46_7, x46_10, x46_11, x46_14, x46_17, x46_18, x46_19, x46_22, x46_23, x46_24, x46_27, x46_28, x46_29, x46_32, x46_33, x46_34, x46_37, x46_38, x46_39, x46_42, x46_43, x46_44, x46_47, x46_48, x46_49, x46_52, x46_53, x46_54, x46_57, x46_58, x46_59, x46_62, x46_63, x46_64, x46_66, x46_67, x46_70, x46_73, x46_74, x46_75, x46_78, x46_81, x46_82, x46_85, x46_86, x46_87, x46_88, x46_91, x46_92, x46_93, x46_96, x46_99, x46_100, x46_103, x46_104, x46_106, x46_108, x46_111, x46_114, x46_115, x46_116, x46_119, x46_120, x46_121, x46_124, x46_125, x46_128, x46_131, x46_132, x46_134, x46_135, x46_138, x46_141, x46_142, x46_145, x46_146, x46_147, x46_148, x46_151, x46_154, x46_155, x46_158, x46_159, x46_160, x46_161, x46_164, x46_165, x46_166, x46_169, x46_172, x46_173, x46_174, x46_177, x46_180, x46_181, x46_184, x46_185, x46_186, x46_189, x46_190, x46_191, x46_194, x46_195, x46_196, x46_199, x46_200, x46_201, x46_202, x46_205, x46_206, x46_209, x46_210, x46_213, x46_214, x46_217, fcn_0_44, fcn_0_49, if_true, if_false, eq_self, Int.reduceEq, Int.reduceLT, Int.reduceLE, Int.reduceAdd, Int.reduceSub, Int.reduceMul, Int.reduceToNat, Nat.reduceAdd, Nat.reduceMul, Nat.reduceEqDiff, Int.toNat_natCast, wrap_id]
        rcases cp_init (d := d) (by omega) hs0' hwf (aI (-1)) (aI 1) sg.length 0 s3 aU (Nat.zero_add _) hCB with ⟨s4, l4, p1, p2, p3⟩ | ⟨s4, k, p1, p2, p3, p4, p5, p6⟩
        · have F4 : Fr CPF s s4 := F3.tr (p3.mono (fun _ _ => FSA_CPF))
          have hCB4 : CB s4 sg lo := CB_put (fun k j hk _ => p3 _ _ (by unfold FSA; omega)) hCB
          obtain ⟨s5, r1, r2, -, r4⟩ := cp_dep (d := d) (by omega) hwf (aI (-1)) (aI 1) l4 sg.length 0 s4 (Nat.zero_add _) hCB4
          have F5 : Fr CPF s s5 := F4.tr (r4.mono (fun _ _ => FDp_CPF))
          have hCB5 : CB s5 sg lo := CB_put (fun k j hk hk2 => r4 _ _ (by unfold FDp FK; omega)) hCB4
          have k5 : ∀ k j, k ≤ 49 → k ≠ 40 → s5 k j = s3 k j := fun k j h1 h2 => by rw [r4 _ _ (by unfold FDp FK; omega), p3 _ _ (by unfold FSA; omega)]
          have hDR : DR s5 sg.length (dpd sg lo) (rgs sg) := by
            refine ⟨hCB5.1, hCB5.2.1, fun g hg => r2 g (Nat.zero_le _) hg, fun g hg => ?_, fun g h hd => ⟨by obtain ⟨x, hx, -⟩ := hd; exact (List.getElem?_eq_some_iff.mp hx).1, hRUN.2.2.1 g h hd⟩⟩
            obtain ⟨x, hx⟩ : ∃ x, sg[g]? = some x := ⟨_, List.getElem?_eq_getElem hg⟩
            have hso := (hCB5.2.2.2.2.2 g x hx).1
            refine ⟨fun ⟨y, hy, h3⟩ => ?_, fun z y => z ⟨x, hx, by omega⟩⟩
            rw [hx] at hy
            cases hy
            rw [hso, h3]
            rfl
          have S5 : Zc (d + 1) 46 [aR 0] s = Ze d 46 180 [aR 0, aI (-1), aI 1, aI sg.length, l4] [] s5 := by
            rw [S3, p1, show aI 0 = aI ((0 : Nat) : Int) from rfl, r1]
          rcases t_looping (d := d) (by omega) hDR with ⟨k, q1, q2, q3, q4⟩ | ⟨q1, q2⟩
          · refine CMR_fail (s1 := mu s5 0 3 (k : Int)) (w := k) (th := 5) ho ((hcmp _ _ _).mpr (Or.inr ⟨W, hGW, Or.inr ⟨fun j hj => p2 j (Nat.zero_le _) hj, Or.inl ⟨k, q1, q2, q3, rfl, rfl, rfl⟩⟩⟩)) mu_s (F5.mu (Or.inl (by decide))) ?_
            rw [S5]
            simp (disch := first | exact obC_0 | omega | (simp only [aN1_35, aN1_40]; omega) | (simp only [List.length_cons, List.length_nil]; omega)) only [en46, x46_0, x46_1, x46_3, x46_6, x46_7, x46_10, x46_11, x46_14, x46_17, x46_18, x46_19, x46_22, x46_23, x46_24, x46_27, x46_28, x46_29, x46_32, x46_33, x46_34, x46_37, x46_38, x46_39, x46_42, x46_43, x46_44, x46_47, x46_48, x46_49, x46_52, x46_53, x46_54, x46_57, x46_58, x46_59, x46_62, x46_63, x46_64, x46_66, x46_67, x46_70, x46_73, x46_74, x46_75, x46_78, x46_81, x46_82, x46_85, x46_86, x46_87, x46_88, x46_91, x46_92, x46_93, x46_96, x46_99, x46_100, x46_103, x46_104, x46_106, x46_108, x46_111, x46_114, x46_115, x46_116, x46_119, x46_120, x46_121, x46_124, x46_125, x46_128, x46_131, x46_132, x46_134, x46_135, x46_138, x46_141, x46_142, x46_145, x46_146, x46_147, x46_148, x46_151, x46_154, x46_155, x46_158, x46_159, x46_160, x46_161, x46_164, x46_165, x46_166, x46_169, x46_172, x46_173, x46_174, x46_177, x46_180, x46_181, x46_184, x46_185, x46_186, x46_189, x46_190, x46_191, x46_194, x46_195, x46_196, x46_199, x46_200, x46_201, x46_202, x46_205, x46_206, x46_209, x46_210, x46_213, x46_214, x46_217, fcn_0_44, fcn_0_49, if_true, if_false, eq_self, Int.reduceEq, Int.reduceLT, Int.reduceLE, Int.reduceAdd, Int.reduceSub, Int.reduceMul, Int.reduceToNat, Nat.reduceAdd, Nat.reduceMul, Nat.reduceEqDiff, Int.toNat_natCast, wrap_id, q4, zcI_r, if_neg (show ¬ (k : Int) < 0 by omega), t_fail (d := d) (by omega)]
          · -- it is compiled
            generalize hs6 : mu s5 0 4 0 = s6
            have k6 : ∀ k j, k ≠ 0 ∨ j ≠ 4 → s6 k j = s5 k j := fun k j h => by
              rw [← hs6]
              rcases h with h | h
              · exact mu_c h
              · by_cases hk : k = 0
                · subst hk; exact mu_i h
                · exact mu_c hk
            have k63 : ∀ k j, k ≤ 49 → k ≠ 40 → k ≠ 0 ∨ j ≠ 4 → s6 k j = s3 k j := fun k j h1 h2 h3 => by rw [k6 k j h3, k5 k j h1 h2]
            have hC6 : CKE s6 N cv (sgW sg W) lo := CKE_put (by omega) (fun k j h => k63 k j (by omega) (by omega) (by omega)) hC3
            have hWE6 : WEs s6 W 0 cv := WEs_put cv 0 (fun j _ => k63 _ _ (by decide) (by decide) (Or.inl (by decide))) hWE
            have hCB6 : CB s6 sg lo := CB_of hN hRUN hC6
            obtain ⟨s7, u1, u2, u3, u4, u5, u6, ⟨v1, v2, v3, v4, v5⟩, u8, u9⟩ := t_hold (d := d) (sk := fun g => ∃ x, sg[g]? = some x ∧ isSk x.1 x.2.2.1) (by omega) hN hCB6.2.1 hCB6.2.2.2.1 (by rw [k63 _ _ (by decide) (by decide) (Or.inr (by decide)), nd3]) hCB6.1 hCB6.2.2.1 rfl (fun g hg => by
              obtain ⟨x, hx⟩ : ∃ x, sg[g]? = some x := ⟨_, List.getElem?_eq_getElem hg⟩
              obtain ⟨y1, y2, -⟩ := hCB6.2.2.2.2.2 g x hx
              exact ⟨x.1, x.2.2.1, y1, y2, ⟨fun ⟨y, hy, h⟩ => by rw [hx] at hy; cases hy; exact h, fun h => ⟨x, hx, h⟩⟩⟩)
            have hLV : LV s7 (sgW sg W) lo W := LV_hold hN hIX hGW hRUN hC6 hWE6 (fun g hg => by rw [k6 _ _ (Or.inl (by decide))]; exact r2 g (Nat.zero_le _) hg) u2 u3 (fun j x hx => ⟨fun z => (u4 j (List.getElem?_eq_some_iff.mp hx).1).1 ⟨x, hx, z⟩, fun z => (u4 j (List.getElem?_eq_some_iff.mp hx).1).2 (fun ⟨y, hy, h⟩ => by rw [hx] at hy; cases hy; exact z h)⟩) u6 ⟨v1, v2⟩
            have hcy : ∀ g, g < (sgW sg W).length → ¬ cyc (dpd (sgW sg W) lo) (rgs (sgW sg W)) g := fun g hg => by
              rw [sgW_D, sgW_rgs]
              exact q1 g (by rw [← sgW_len (W := W)]; exact hg)
            have zst : ∀ h, h < (sgW sg W).length → s7 45 h = 0 ∧ s7 44 h = 0 := fun h hh => by
              rw [sgW_len] at hh
              exact ⟨u5 _ h (by decide) hh, u5 _ h (by decide) hh⟩
            obtain ⟨s8, val, e1, e2, e3, e4, e5, e6⟩ := t_evaluate (d := d) (st := fun j => s7 45 j) (val := fun j => s7 44 j) (by omega) hLV hcy (fun _ _ => rfl) (fun _ _ => rfl) (fun h hh => by
              show iand (s7 45 h) (msk (W h)) = s7 45 h
              rw [(zst h hh).1, iand_z]) (fun h hh => by
              show iand (s7 44 h) (msk (W h)) = s7 44 h
              rw [(zst h hh).2, iand_z])
            have z8 : ∀ j, s8 0 j = s7 0 j := fun j => FEv_k e6 (by decide)
            have z7 : ∀ j, j < 71 → s7 0 j = s6 0 j := fun j hj => u9 _ _ (by unfold HF; omega)
            have sg8 : s8 0 50 = sg.length := by rw [z8, z7 _ (by decide), hCB6.1]
            have tx8 : tx s8 = tx s ∧ okT s8 := by
              have F6 : Fr CPF s s6 := by rw [← hs6]; exact F5.mu (Or.inl (by decide))
              have t6 := F6.tx CPF_len CPF_txt
              have o6 := F6.okT CPF_len CPF_txt ho
              have n1 : ¬ HF 0 1 := by unfold HF; omega
              have n2 : ∀ j, ¬ HF 1 j := fun j => by unfold HF; omega
              have n3 : ¬ FEv 0 1 := by unfold FEv FBc; omega
              have n4 : ∀ j, ¬ FEv 1 j := fun j => by unfold FEv FBc; omega
              exact ⟨((e6.tx n3 n4).trans (u9.tx n1 n2)).trans t6, e6.okT n3 n4 (u9.okT n1 n2 o6)⟩
            refine ⟨s8, -2, 0, some (sgW sg W, lo, W), (hcmp _ _ _).mpr (Or.inr ⟨W, hGW, Or.inr ⟨fun j hj => p2 j (Nat.zero_le _) hj, Or.inr ⟨q1, rfl, rfl, rfl⟩⟩⟩), ?_, ?_, tx8.1, tx8.2, ?_, e2, ?_, ?_, ?_, fun j hj => ?_, hcy, val, e3, EV_st (fun g hg => (zst g hg).1) e4, e5⟩
            · rw [z8, z7 _ (by decide), k63 _ _ (by decide) (by decide) (Or.inr (by decide)), MF_w m7, c3 _ _ (CF_no0 (by decide)), hwh, w0]
            · rw [z8, z7 _ (by decide), ← hs6, mu_s]
            · rw [S5, sgW_len]
              simp (disch := first | exact obC_0 | omega | (simp only [aN1_35, aN1_40]; omega) | (simp only [List.length_cons, List.length_nil]; omega)) only [en46, x46_0, x46_1, x46_3, x46_6, x46_7, x46_10, x46_11, x46_14, x46_17, x46_18, x46_19, x46_22, x46_23, x46_24, x46_27, x46_28, x46_29, x46_32, x46_33, x46_34, x46_37, x46_38, x46_39, x46_42, x46_43, x46_44, x46_47, x46_48, x46_49, x46_52, x46_53, x46_54, x46_57, x46_58, x46_59, x46_62, x46_63, x46_64, x46_66, x46_67, x46_70, x46_73, x46_74, x46_75, x46_78, x46_81, x46_82, x46_85, x46_86, x46_87, x46_88, x46_91, x46_92, x46_93, x46_96, x46_99, x46_100, x46_103, x46_104, x46_106, x46_108, x46_111, x46_114, x46_115, x46_116, x46_119, x46_120, x46_121, x46_124, x46_125, x46_128, x46_131, x46_132, x46_134, x46_135, x46_138, x46_141, x46_142, x46_145, x46_146, x46_147, x46_148, x46_151, x46_154, x46_155, x46_158, x46_159, x46_160, x46_161, x46_164, x46_165, x46_166, x46_169, x46_172, x46_173, x46_174, x46_177, x46_180, x46_181, x46_184, x46_185, x46_186, x46_189, x46_190, x46_191, x46_194, x46_195, x46_196, x46_199, x46_200, x46_201, x46_202, x46_205, x46_206, x46_209, x46_210, x46_213, x46_214, x46_217, fcn_0_44, fcn_0_49, if_true, if_false, eq_self, Int.reduceEq, Int.reduceLT, Int.reduceLE, Int.reduceAdd, Int.reduceSub, Int.reduceMul, Int.reduceToNat, Nat.reduceAdd, Nat.reduceMul, Nat.reduceEqDiff, Int.toNat_natCast, wrap_id, q2, zcI_r, zcV_r, hs6, u1, e1, sg8]
            · rw [z8, v4]
            · rw [z8, v5]
            · rw [z8, v3]
              exact hC6.2.2.2.2.2.2.1
            · rw [sgW_len] at hj
              rw [FEv_k e6 (by decide), FEv_k e6 (by decide), FEv_k e6 (by decide)]
              exact ⟨u5 _ j (by decide) hj, u5 _ j (by decide) hj, u5 _ j (by decide) hj⟩
        · refine CMR_fail (s1 := mu s4 0 3 (k : Int)) (w := k) (th := 4) ho ((hcmp _ _ _).mpr (Or.inr ⟨W, hGW, Or.inl ⟨k, p3, p4, fun j hj => p5 j (Nat.zero_le _) hj, rfl, rfl, rfl⟩⟩)) mu_s ((F3.tr (p6.mono (fun _ _ => FSA_CPF))).mu (Or.inl (by decide))) ?_
          rw [S3, p1]
      · refine CMR_fail (s1 := mu s3 0 3 (-1)) (w := -1) (th := 3) ho ((hcmp _ _ _).mpr (Or.inl ⟨m2, rfl, rfl, rfl⟩)) mu_s ((F2.tr (m3.mono (fun _ _ => MF_CPF hN))).mu (Or.inl (by decide))) ?_
        rw [S2 0 s3 m1]
        simp (disch := first | exact obC_0 | omega | (simp only [aN1_35, aN1_40]; omega) | (simp only [List.length_cons, List.length_nil]; omega)) only [en46, x46_0, x46_1, x46_3, x46_6, x46_7, x46_10, x46_11, x46_14, x46_17, x46_18, x46_19, x46_22, x46_23, x46_24, x46_27, x46_28, x46_29, x46_32, x46_33, x46_34, x46_37, x46_38, x46_39, x46_42, x46_43, x46_44, x46_47, x46_48, x46_49, x46_52, x46_53, x46_54, x46_57, x46_58, x46_59, x46_62, x46_63, x46_64, x46_66, x46_67, x46_70, x46_73, x46_74, x46_75, x46_78, x46_81, x46_82, x46_85, x46_86, x46_87, x46_88, x46_91, x46_92, x46_93, x46_96, x46_99, x46_100, x46_103, x46_104, x46_106, x46_108, x46_111, x46_114, x46_115, x46_116, x46_119, x46_120, x46_121, x46_124, x46_125, x46_128, x46_131, x46_132, x46_134, x46_135, x46_138, x46_141, x46_142, x46_145, x46_146, x46_147, x46_148, x46_151, x46_154, x46_155, x46_158, x46_159, x46_160, x46_161, x46_164, x46_165, x46_166, x46_169, x46_172, x46_173, x46_174, x46_177, x46_180, x46_181, x46_184, x46_185, x46_186, x46_189, x46_190, x46_191, x46_194, x46_195, x46_196, x46_199, x46_200, x46_201, x46_202, x46_205, x46_206, x46_209, x46_210, x46_213, x46_214, x46_217, fcn_0_44, fcn_0_49, if_true, if_false, eq_self, Int.reduceEq, Int.reduceLT, Int.reduceLE, Int.reduceAdd, Int.reduceSub, Int.reduceMul, Int.reduceToNat, Nat.reduceAdd, Nat.reduceMul, Nat.reduceEqDiff, Int.toNat_natCast, wrap_id, t_fail (d := d) (by omega), zcI_r]
