def y_activity : MethodName := ⟨"LowForgeLaw", "activity", "(LLowForge;I[D)I"⟩
def ws_activity : List Cond := Cond.codeWith y_activity method_10_code 4 (some .int) [((0 : Nat), (8 : Nat), (11 : Nat), (31 : Nat))] :: TBW
theorem d_activity_0 : decode method_10_code 0 = .ok (.aload_n 2, 1) := by decide +kernel
theorem d_activity_1 : decode method_10_code 1 = .ok (.iconst 0, 1) := by decide +kernel
theorem d_activity_2 : decode method_10_code 2 = .ok (.aload_n 0, 1) := by decide +kernel
theorem d_activity_3 : decode method_10_code 3 = .ok (.iload_n 1, 1) := by decide +kernel
theorem d_activity_4 : decode method_10_code 4 = .ok (.invokevirtual 46, 3) := by decide +kernel
theorem d_activity_7 : decode method_10_code 7 = .ok (.dastore, 1) := by decide +kernel
theorem d_activity_8 : decode method_10_code 8 = .ok (.goto 6, 3) := by decide +kernel
theorem d_activity_11 : decode method_10_code 11 = .ok (.astore_n 3, 1) := by decide +kernel
theorem d_activity_12 : decode method_10_code 12 = .ok (.iconst 1, 1) := by decide +kernel
theorem d_activity_13 : decode method_10_code 13 = .ok (.ireturn, 1) := by decide +kernel
theorem d_activity_14 : decode method_10_code 14 = .ok (.iconst 0, 1) := by decide +kernel
theorem d_activity_15 : decode method_10_code 15 = .ok (.ireturn, 1) := by decide +kernel
set_option maxRecDepth 20000 in
theorem ln_activity : Cond.methodLink (clsN 14) 46 (mN 73) ∈ TBW := tb5 137 rfl rfl
set_option maxHeartbeats 4000000 in
theorem w_activity (l : Launch) (hl : l.stackTraces = false) {ad : Nat → Nat} {D : va_G} {cT : Nat → ClassId} (x0 : Int32) {w w' : Mem} {qo : Nat} {cL : ClassId} {ov ov' : Value} {k : Int} {sz : Nat} (had : ∀ k, k < lyt.length → ad k ≠ qo) (h : HRd 73 [aR 56, aI x0.toInt] [(6, 1)] w w' k ov ov') :
    Met l y_activity ws_activity rmW (PcW ad D cT w [aR 56, aI x0.toInt] qo cL .double ov sz) (QW ad D cT (fun q => AZ ad sz q ∨ q = qo) qo cL k w' ov') 1 6 (fun q => AZ ad sz q ∨ q = qo) := by
  refine va_MetW (cc := method_10_code) (maxL := 4) (ret := some .int) (by decide) rfl ?_
  intro p e s m args below meth c s₁ B hml hv
  obtain ⟨harg, hsz, ⟨hP, hD, hK, hm⟩, hT0, hN, ho, hty⟩ := hv
  have e0 : ([aR 56, aI x0.toInt] : List AV).map (cV ad) ++ [Value.ref qo] = ([.ref (ad 56), .int x0, .ref qo] : List Value) := by
    simp only [List.map_cons, List.map_nil, List.cons_append, List.nil_append, cV_R, cV_I, i32_of, cV_L]
  rw [e0] at harg
  subst harg
  have hx := B.exec
  have hb := B.bytes
  have hr := B.returns
  have hts := atoms_spec (ws := ws_activity) B.pre
  have hown : s.vm.findClass (clsN 14) = some m.cls := findClass_of_methodNamed B.named
  have hlocks := B.notSynchronized
  subst hsz
  have C0 : CXZ p s m _ meth c ws_activity 14 method_10_code 4 := ⟨hx, hb, hml, hown, hts, fun q hq => List.mem_cons_of_mem _ hq⟩
  obtain ⟨m9, meth9, c9, hn9, hm9, hc9, -, -, hexc, -, -, -⟩ := Cond.codeWith_spec (hts _ List.mem_cons_self)
  cases B.named.symm.trans hn9
  cases B.method.symm.trans hm9
  cases (Stand.of_body B).code.symm.trans hc9
  have hA : ∀ q, s.heap.size ≤ q → (AZ ad s.heap.size q ∨ q = qo) := fun q hq => Or.inl (Or.inr hq)
  have hAd : ∀ k, k < lyt.length → (AZ ad s.heap.size (ad k) ∨ ad k = qo) := fun k hk => Or.inl (Or.inl ⟨k, hk, rfl⟩)
  have hst : ∀ q, (AZ ad s.heap.size q ∨ q = qo) → ∀ cell, s.heap[q]? = some cell → cell.vm.isStatics = false := fun q hq cell hc => by
    rcases hq with z | rfl
    · exact wz_st hP q z cell hc
    · rw [ho] at hc; cases Option.some.inj hc; rfl
  have hqo : qo < s.heap.size := (Array.getElem?_eq_some_iff.mp ho).1
  have hnq : ¬ AZ ad s.heap.size qo := fun z => by
    rcases z with ⟨k, hk, e⟩ | z
    · exact had k hk e.symm
    · omega
  have hS : va_S (fun q => AZ ad s.heap.size q ∨ q = qo) s.heap s.heap [] := va_S.rf
  have hok : ∀ v ∈ ([aR 56, aI x0.toInt] : List AV), okV v := fun v hv => by
    simp only [List.mem_cons, List.not_mem_nil, or_false] at hv
    rcases hv with rfl | rfl
    · exact okV_R _
    · exact okV_I (i32_in _)
  have hl0 := lv_entry ([.ref (ad 56), .int x0, .ref qo] : List Value) (n := 4) (Nat.le_of_ble_eq_true rfl)
  show W p l e rmW s m _ below meth c s.heap [] 0 0 _ (entryFrame m ([.ref (ad 56), .int x0, .ref qo] : List Value).toArray 4)
  rw [lg_entry_eq]
  generalize (lg_sl ([.ref (ad 56), .int x0, .ref qo]) ++ List.replicate (4 - (lg_sl ([.ref (ad 56), .int x0, .ref qo])).length) Slot.unset).toArray = ls at hl0 ⊢
  have hl1 : lv_has ls 4 [(0, .ref (ad 56)), (1, .int x0), (2, .ref qo)] := hl0
  refine lv_aload_n hx hb d_activity_0 rfl (lv_at hl1 2 rfl) ?_
  refine lv_iconst hx hb d_activity_1 rfl ?_
  refine lv_aload_n hx hb d_activity_2 rfl (lv_at hl1 0 rfl) ?_
  refine lv_iload_n hx hb d_activity_3 rfl (lv_at hl1 1 rfl) ?_
  have est : ([.int x0, .ref (ad 56), .int 0, .ref qo] : List Value) = (([aI x0.toInt] : List AV).map (cV ad)).reverse ++ .ref (ad 56) :: [.int 0, .ref qo] := by
    simp only [List.map_cons, List.map_nil, List.reverse_cons, List.reverse_nil, List.nil_append, List.cons_append, cV_I, i32_of, cV_L]
  show W p l e rmW s m _ below meth c s.heap [] 0 0 _ (F0 m 4 ls ([.int x0, .ref (ad 56), .int 0, .ref qo] : List Value))
  rw [est]
  rcases h with ⟨v, hz, rfl, rfl⟩ | ⟨q, hq, hz, rfl, rfl⟩
  · obtain ⟨Ar, hrun⟩ := runX (e := e) (below := below) (locs := []) (cells := 0) (slots := 0) (R := rmW) (d := 20) (j := 73) (rr := 56) (rest := [.int 0, .ref qo]) (ls := ls) C0 hK ⟨by decide, by decide⟩ (by decide +kernel) (fmAll 73 (by decide) (by decide)) rfl ln_activity rfl rfl (by decide +kernel) (Nat.le_of_ble_eq_true rfl) d_activity_4 (z_met l 20 ad D cT 73 _ w _ s.heap.size (by rw [mtt_len]; decide) (by decide) hz hok (by show (2 : Nat) < 10; decide)) hP hD hm hl1.1 ⟨by decide, by decide⟩
    unfold QZ at hrun
    rw [if_neg (by show ¬ (2 : Nat) = 1; decide), if_pos rfl] at hrun
    refine va_calld hrun hS (fun q _ hq => Or.inl hq) (fun q hq => Or.inl hq) (fun x u t H1 locs1 ht hvm hp hB hz1 hk1 hS1 => ?_)
    obtain ⟨hP1, hD1, hK1, hm1⟩ := hB
    rw [ht] at hP1
    have ho1 : H1[qo]? = some (arrV cL 1 (fun _ => ov)) := by rw [hk1 qo hqo hnq]; exact ho
    refine W.dast (j := 0) hx hb ho1 (hty 1 _) (fun q => by cases q) (by show ¬ ((0 : Int32) < 0 ∨ (arrV _ _ _).slots.size ≤ _); rw [arrV_size]; decide) rfl rfl d_activity_7 (fun H2 e2 z2 o2 => ?_)
    have e3 : H2[qo]? = some (arrV cL 1 (fun _ => .double (dU v))) := by rw [e2, hp]; exact congrArg some arrV_set
    refine lv_goto (tgt := 14) hx hb d_activity_8 rfl ?_
    exact endX hx hb hr hlocks hK ⟨by decide, by decide⟩ (hP1.kept (fun k x hx => o2 x.1 (fun z => by
      have hk : k < lyt.length := by
        have := (List.getElem?_eq_some_iff.mp hx).1
        simpa [wS] using this
      rw [wS_get hk] at hx
      cases hx
      exact had k hk z))) hD1 hm1 e3 ⟨by rw [z2]; exact hS1.1, fun q h1 h2 => by rw [o2 q (fun z => h2 (Or.inr z))]; exact hS1.2.1 q h1 h2, fun q hq => by
      rcases List.mem_append.mp hq with z | z
      · exact hS1.2.2 q z
      · rw [List.mem_singleton.mp z]; exact Or.inr rfl⟩ d_activity_14 d_activity_15
  · have hM := z_metT l hl (ad := ad) (D := D) (cT := cT) (d := 19) (sz := s.heap.size) (j := 73) (by decide) (by decide) hz hok
    obtain ⟨x0_, hexl, hxs⟩ : ∃ x0_, c.exceptionTable.toList = [x0_] ∧ (x0_.startPc, x0_.endPc, x0_.handlerPc, x0_.catchType) = (0, 8, 11, 31) := by
      revert hexc
      generalize c.exceptionTable.toList = L
      intro hexc
      obtain _ | ⟨x0_, L⟩ := L
      · simp at hexc
      obtain _ | ⟨x9_, L⟩ := L
      · simp only [List.map_cons, List.map_nil, List.cons.injEq, and_true] at hexc
        exact ⟨x0_, rfl, hexc⟩
      · simp at hexc
    have hx0_ := hxs
    simp only [Prod.mk.injEq] at hx0_
    have cl0_ : (Cond.classLink (clsN 14) x0_.catchType (exN 6)).before ([.ref (ad 56), .int x0, .ref qo] : List Value).toArray s = true := by rw [hx0_.2.2.2]; exact hts _ (List.mem_cons_of_mem _ (cw_31))
    have fc0_ : ∃ cT, s.vm.findClass (exN 6) = some cT := fc_of (hts _ (List.mem_cons_of_mem _ (thC_ok (n := 6) (by decide) (by decide)).2))
    have cv0_ : covers x0_ 4 = true := by simp only [covers, hx0_.1, hx0_.2.1]; decide
    have cz0_ : x0_.catchType ≠ 0 := by rw [hx0_.2.2.2]; decide
    obtain rfl := List.mem_singleton.mp hq
    refine thrX (e := e) (below := below) (R := rmW) (d := 19) (j := 73) (rr := 56) (n := 6) (hpc := 11) (pre := []) (x := x0_) (rest' := []) C0 hK ⟨by decide, by decide⟩ (by decide +kernel) (fmAll 73 (by decide) (by decide)) rfl ln_activity rfl rfl (by decide +kernel) (Nat.le_of_ble_eq_true rfl) d_activity_4 hM hP hD hm hl1.1 ⟨by decide, by decide⟩ hT0 hS hA hAd hst hexl (fun cls hcls => ⟨cl_of (n := 0) cv0_ cz0_ cl0_ true (fun cT hcT => as_of (args := #[]) (hT0.2.2.2.2 6 (by decide) (by decide)) hcls hcT) fc0_, fun y hy => absurd hy List.not_mem_nil⟩) hx0_.2.2.1 (fun x0 H1 locs1 hP1 hD1 hm1 hS1 hz1 hk1 => ?_)
    refine lv_astore_n hx hb d_activity_11 rfl hl1 (by decide) rfl (fun ls2 hl2 => ?_)
    exact endX hx hb hr hlocks hK ⟨by decide, by decide⟩ hP1 hD1 hm1 (by rw [hk1 qo hqo hnq]; exact ho) hS1 d_activity_12 d_activity_13
