/-! what the start gives of the tables (printed by law.py) -/
theorem tl1 {w : Cond} (i : Nat) (h : tables_1_1[i]? = some w) : w ∈ lw_tbl := List.mem_append_right _ (List.mem_append_left _ (List.mem_of_getElem? h))
theorem tl2 {w : Cond} (i : Nat) (h : tables_1_2[i]? = some w) : w ∈ lw_tbl := List.mem_append_right _ (List.mem_append_right _ (List.mem_append_left _ (List.mem_of_getElem? h)))
theorem tl3 {w : Cond} (i : Nat) (h : tables_1_3[i]? = some w) : w ∈ lw_tbl := List.mem_append_right _ (List.mem_append_right _ (List.mem_append_right _ (List.mem_append_left _ (List.mem_of_getElem? h))))
theorem tl4 {w : Cond} (i : Nat) (h : tables_1_4[i]? = some w) : w ∈ lw_tbl := List.mem_append_right _ (List.mem_append_right _ (List.mem_append_right _ (List.mem_append_right _ (List.mem_append_left _ (List.mem_of_getElem? h)))))
theorem tl5 {w : Cond} (i : Nat) (h : tables_1_5[i]? = some w) : w ∈ lw_tbl := List.mem_append_right _ (List.mem_append_right _ (List.mem_append_right _ (List.mem_append_right _ (List.mem_append_right _ (List.mem_append_left _ (List.mem_of_getElem? h))))))
theorem tl6 {w : Cond} (i : Nat) (h : tables_1_6[i]? = some w) : w ∈ lw_tbl := List.mem_append_right _ (List.mem_append_right _ (List.mem_append_right _ (List.mem_append_right _ (List.mem_append_right _ (List.mem_append_right _ (List.mem_append_left _ (List.mem_of_getElem? h)))))))
theorem tl7 {w : Cond} (i : Nat) (h : tables_1_7[i]? = some w) : w ∈ lw_tbl := List.mem_append_right _ (List.mem_append_right _ (List.mem_append_right _ (List.mem_append_right _ (List.mem_append_right _ (List.mem_append_right _ (List.mem_append_right _ (List.mem_of_getElem? h)))))))
set_option maxRecDepth 20000 in
theorem zin0 : Cond.instantiable (clsN 0) (nfZ 0) ∈ TBW := tb5 162 rfl rfl
set_option maxRecDepth 20000 in
theorem zin1 : Cond.instantiable (clsN 1) (nfZ 1) ∈ TBW := tb1 27 rfl rfl
set_option maxRecDepth 20000 in
theorem zin2 : Cond.instantiable (clsN 2) (nfZ 2) ∈ TBW := tb2 125 rfl rfl
set_option maxRecDepth 20000 in
theorem zin3 : Cond.instantiable (clsN 3) (nfZ 3) ∈ TBW := tb1 35 rfl rfl
set_option maxRecDepth 20000 in
theorem zin4 : Cond.instantiable (clsN 4) (nfZ 4) ∈ TBW := tb2 81 rfl rfl
set_option maxRecDepth 20000 in
theorem zin5 : Cond.instantiable (clsN 5) (nfZ 5) ∈ TBW := tb2 166 rfl rfl
set_option maxRecDepth 20000 in
theorem zin6 : Cond.instantiable (clsN 6) (nfZ 6) ∈ TBW := tb1 89 rfl rfl
set_option maxRecDepth 20000 in
theorem zin7 : Cond.instantiable (clsN 7) (nfZ 7) ∈ TBW := tb2 94 rfl rfl
set_option maxRecDepth 20000 in
theorem zin8 : Cond.instantiable (clsN 8) (nfZ 8) ∈ TBW := tb1 41 rfl rfl
set_option maxRecDepth 20000 in
theorem zin9 : Cond.instantiable (clsN 9) (nfZ 9) ∈ TBW := tb2 153 rfl rfl
set_option maxRecDepth 20000 in
theorem zin10 : Cond.instantiable (clsN 10) (nfZ 10) ∈ TBW := tb2 36 rfl rfl
set_option maxRecDepth 20000 in
theorem zin11 : Cond.instantiable (clsN 11) (nfZ 11) ∈ TBW := tb1 202 rfl rfl
set_option maxRecDepth 20000 in
theorem zin12 : Cond.instantiable (clsN 12) (nfZ 12) ∈ TBW := tb1 224 rfl rfl
theorem zinAll : ∀ c, c < 13 → Cond.instantiable (clsN c) (nfZ c) ∈ TBW := lt_s (lt_s (lt_s (lt_s (lt_s (lt_s (lt_s (lt_s (lt_s (lt_s (lt_s (lt_s (lt_s lt_0 zin0) zin1) zin2) zin3) zin4) zin5) zin6) zin7) zin8) zin9) zin10) zin11) zin12
set_option maxRecDepth 20000 in
theorem in_nstW : ∀ w ∈ nstW, w ∈ lw_tbl := List.forall_mem_cons.mpr ⟨tl5 63 rfl, List.forall_mem_cons.mpr ⟨tl5 60 rfl, fun _ h => absurd h List.not_mem_nil⟩⟩
set_option maxRecDepth 20000 in
theorem in_nstC : ∀ w ∈ nstC, w ∈ lw_tbl := List.forall_mem_cons.mpr ⟨tl1 36 rfl, List.forall_mem_cons.mpr ⟨tl1 203 rfl, List.forall_mem_cons.mpr ⟨tl1 225 rfl, List.forall_mem_cons.mpr ⟨tl2 37 rfl, List.forall_mem_cons.mpr ⟨tl1 42 rfl, List.forall_mem_cons.mpr ⟨tl1 90 rfl, fun _ h => absurd h List.not_mem_nil⟩⟩⟩⟩⟩⟩
set_option maxRecDepth 20000 in
theorem in_aov : aov ∈ lw_tbl := tl2 172 rfl
set_option maxRecDepth 20000 in
theorem in_us : Cond.laysStatic Bundle.tN "UNASSIGNED_STACK" Bundle.steD ∈ lw_tbl := tl3 48 rfl
set_option maxRecDepth 20000 in
theorem in_sr : Cond.laysStatic Bundle.tN "SUPPRESSED_SENTINEL" Bundle.listD ∈ lw_tbl := tl3 50 rfl
set_option maxRecDepth 20000 in
theorem in_str : ∀ q ∈ strZ, Cond.stringRef "LowForge" q.1 q.2 ∈ lw_tbl := List.forall_mem_cons.mpr ⟨tl3 65 rfl, List.forall_mem_cons.mpr ⟨tl3 101 rfl, List.forall_mem_cons.mpr ⟨tl4 39 rfl, List.forall_mem_cons.mpr ⟨tl4 139 rfl, List.forall_mem_cons.mpr ⟨tl4 181 rfl, List.forall_mem_cons.mpr ⟨tl5 3 rfl, List.forall_mem_cons.mpr ⟨tl5 23 rfl, List.forall_mem_cons.mpr ⟨tl5 72 rfl, List.forall_mem_cons.mpr ⟨tl5 86 rfl, List.forall_mem_cons.mpr ⟨tl5 108 rfl, List.forall_mem_cons.mpr ⟨tl5 127 rfl, List.forall_mem_cons.mpr ⟨tl5 128 rfl, List.forall_mem_cons.mpr ⟨tl5 148 rfl, fun _ h => absurd h List.not_mem_nil⟩⟩⟩⟩⟩⟩⟩⟩⟩⟩⟩⟩⟩
set_option maxRecDepth 20000 in
theorem in_dec : ∀ x ∈ xwD, Cond.declares x ∈ lw_tbl := List.forall_mem_cons.mpr ⟨tl3 25 rfl, List.forall_mem_cons.mpr ⟨tl3 27 rfl, List.forall_mem_cons.mpr ⟨tl3 29 rfl, fun _ h => absurd h List.not_mem_nil⟩⟩⟩
set_option maxRecDepth 20000 in
theorem in_cast1 : Cond.castable (exN 1) (exN 1) ∈ lw_tbl := tl3 23 rfl
set_option maxRecDepth 20000 in
theorem in_cast2 : Cond.castable (exN 2) (exN 2) ∈ lw_tbl := tl4 132 rfl
set_option maxRecDepth 20000 in
theorem in_cast3 : Cond.castable (exN 3) (exN 3) ∈ lw_tbl := tl3 94 rfl
set_option maxRecDepth 20000 in
theorem in_cast4 : Cond.castable (exN 4) (exN 4) ∈ lw_tbl := tl4 236 rfl
set_option maxRecDepth 20000 in
theorem in_cast5 : Cond.castable (exN 5) (exN 5) ∈ lw_tbl := tl5 16 rfl
set_option maxRecDepth 20000 in
theorem in_cast6 : Cond.castable (exN 6) (exN 6) ∈ lw_tbl := tl5 79 rfl
set_option maxRecDepth 20000 in
theorem lx_8 : CLx 14 8 1 := ⟨⟨tb1 26 rfl rfl, zin1, tb1 1 rfl rfl⟩, by decide⟩
set_option maxRecDepth 20000 in
theorem lx_54 : CLx 14 54 0 := ⟨⟨tb5 161 rfl rfl, zin0, tb1 13 rfl rfl⟩, by decide⟩
set_option maxRecDepth 20000 in
theorem lm_53 : Cond.methodLink (clsN 14) 53 (cN 1) ∈ TBW := tb1 28 rfl rfl
set_option maxRecDepth 20000 in
theorem lm_56 : Cond.methodLink (clsN 14) 56 (cN 0) ∈ TBW := tb5 163 rfl rfl
theorem aov_of {args : Array Value} {s : State} (h : aov.before args s = true) : ∃ (comp c : ClassId) (k : Class), s.vm.findClass ("[" ++ FieldType.int.toString) = some comp ∧ s.vm.classes[c]? = some k ∧ k.kind = .array comp (.array .int) ∧ s.vm.findClass ("[" ++ (FieldType.array .int).toString) = some c := by
  have e0 : (FieldType.array .int).toString = "[" ++ FieldType.int.toString := rfl
  unfold aov at h
  simp only [Cond.before, Cond.holds, Cond.value, beq_iff_eq] at h
  rw [← e0]
  cases hc : s.vm.findClass (FieldType.array .int).toString with
  | none => rw [hc] at h; simp at h
  | some comp =>
    rw [hc] at h
    simp only [Option.bind_some, Option.bind_eq_some_iff, Option.map_eq_some_iff] at h
    obtain ⟨c, hi, k, hk, hb⟩ := h
    obtain ⟨hlt, hp, -⟩ := Array.findIdx?_eq_some_iff_getElem.mp hi
    have hkk : s.vm.classes[c] = k := (Array.getElem?_eq_some_iff.mp hk).2
    rw [hkk] at hp
    cases hkind : k.kind with
    | array component ty =>
      rw [hkind] at hb hp
      simp only [Bool.and_eq_true, decide_eq_true_eq, beq_iff_eq] at hb hp
      exact ⟨comp, c, k, rfl, hk, by rw [hkind, hp, hb.1], hb.2⟩
    | _ => rw [hkind] at hb; simp at hb
theorem str_of {A : Array Value} {s : State} {own tx : String} {k : Nat} (h : (Cond.stringRef own k tx).before A s = true) : ∃ a, vk_R own k tx a s := by
  have h0 := h
  simp only [Cond.before, Cond.holds, Cond.value] at h
  cases hr : s.resolvedAt? own k with
  | none => simp [hr] at h
  | some r =>
    cases r with
    | string a =>
      refine ⟨a, vk_R.of (A := A) h0 ?_⟩
      simp only [State.resolvedAt?, Option.bind_eq_bind] at hr
      simp only [Term.eval, Option.bind_eq_bind]
      cases hc : s.vm.findClass own with
      | none => rw [hc] at hr; simp at hr
      | some c =>
        rw [hc] at hr
        simp only [Option.bind_some] at hr ⊢
        cases hk : s.vm.classes[c]? with
        | none => rw [hk] at hr; simp at hr
        | some K =>
          rw [hk] at hr
          simp only [Option.bind_some] at hr ⊢
          rw [hr]
          rfl
    | _ => simp [hr] at h
theorem nc_of {args : Array Value} {s : State} {A B : String} (h : (Cond.not (.castable A B)).before args s = true) {a b : ClassId} (h1 : s.vm.findClass A = some a) (h2 : s.vm.findClass B = some b) : s.vm.assignable a b = false := by
  simpa [Cond.before, Cond.holds, Cond.value, h1, h2] using h
theorem st_K {args : Array Value} {s : State} (hts : ∀ w ∈ lw_tbl, w.before args s = true) : ∃ (D : va_G) (cT : Nat → ClassId), KZ D cT s ∧ NSC s ∧ MAK cT s := by
  have hcls : ∀ c, ∃ (cC : ClassId) (iS : Nat → Nat), c < 13 → u_Kn s (clsN c) (TZ c) (nfZ c) cC iS := fun c => by
    by_cases hc : c < 13
    · obtain ⟨cC, iS, h⟩ := u_known hts (fun w hw => lawT w ((fcAll c hc).1 w hw)) (hts _ (lawT _ (zinAll c hc)))
      exact ⟨cC, iS, fun _ => h⟩
    · exact ⟨0, fun _ => 0, fun h => absurd h hc⟩
  obtain ⟨c1, k1, o1, f1, g1, e1⟩ := Cond.arrayClass_spec (hts _ (lawT _ car_int))
  obtain ⟨c2, k2, o2, f2, g2, e2⟩ := Cond.arrayClass_spec (hts _ (lawT _ car_boolean))
  obtain ⟨c3, k3, o3, f3, g3, e3⟩ := Cond.arrayClass_spec (hts _ (lawT _ car_char))
  obtain ⟨o4, c4, k4, a1, a2, a3, a4⟩ := aov_of (hts _ in_aov)
  have ho : o4 = c1 := Option.some.inj (a1.symm.trans f1)
  subst ho
  let D : va_G := (fun c => Classical.choose (hcls c), fun c => Classical.choose (Classical.choose_spec (hcls c)))
  let cT : Nat → ClassId := fun t => if t = 1 then o4 else if t = 2 then c2 else if t = 3 then c3 else c4
  have hD : ∀ c, c < 13 → u_Kn s (clsN c) (TZ c) (nfZ c) (D.1 c) (D.2 c) := fun c => Classical.choose_spec (Classical.choose_spec (hcls c))
  refine ⟨D, cT, ⟨⟨fun c q hq => ?_, fun k q hk => ?_⟩, fun w hw => ?_⟩, fun w hw => ?_, ⟨k4, k1, o1, a2, a3, g1, e1⟩⟩
  · have hc : c < 13 := (List.getElem?_eq_some_iff.mp hq).1
    rw [clzAll c hc] at hq
    cases hq
    exact hD c hc
  · have hk4 : k < 4 := (List.getElem?_eq_some_iff.mp hk).1
    rcases (by omega : k = 0 ∨ k = 1 ∨ k = 2 ∨ k = 3) with rfl | rfl | rfl | rfl <;> cases hk
    · exact ⟨fun n z => ⟨fun k h => (by cases h), k1, g1, o1, e1⟩, f1⟩
    · exact ⟨fun n z => ⟨fun k h => (by cases h), k2, g2, o2, e2⟩, f2⟩
    · exact ⟨fun n z => ⟨fun k h => (by cases h), k3, g3, o3, e3⟩, f3⟩
    · exact ⟨fun n z => ⟨fun k h => (by cases h), k4, a2, o4, a3⟩, a4⟩
  · have h := hts w (in_nstW w hw)
    simp only [nstW, List.mem_cons, List.not_mem_nil, or_false] at hw
    rcases hw with rfl | rfl <;> exact va_Nw.of rfl h
  · have h := hts w (in_nstC w hw)
    simp only [nstC, List.mem_cons, List.not_mem_nil, or_false] at hw
    rcases hw with rfl | rfl | rfl | rfl | rfl | rfl <;> exact va_Nw.of rfl h
theorem st_T {args : Array Value} {s : State} (hts : ∀ w ∈ lw_tbl, w.before args s = true) (hg : (Jvm.Cond.and given_1 narrow_1).before args s = true) : ThrK s := by
  refine ⟨LSt.of (hts _ in_us) (flat_of_before _ hg _ (by decide +kernel)), LSt.of (hts _ in_sr) (flat_of_before _ hg _ (by decide +kernel)), fun q hq => str_of (hts _ (in_str q hq)), fun x hx => va_Nw.of rfl (hts _ (in_dec x hx)), fun n h1 h2 => ?_⟩
  rcases (by omega : n = 1 ∨ n = 2 ∨ n = 3 ∨ n = 4 ∨ n = 5 ∨ n = 6) with rfl | rfl | rfl | rfl | rfl | rfl
  · exact va_Nw.of rfl (hts _ in_cast1)
  · exact va_Nw.of rfl (hts _ in_cast2)
  · exact va_Nw.of rfl (hts _ in_cast3)
  · exact va_Nw.of rfl (hts _ in_cast4)
  · exact va_Nw.of rfl (hts _ in_cast5)
  · exact va_Nw.of rfl (hts _ in_cast6)
theorem st_N {args : Array Value} {s : State} (hg : (Jvm.Cond.and given_1 narrow_1).before args s = true) : NCK s := by
  intro q hq a b h1 h2
  simp only [ncs, List.mem_cons, List.not_mem_nil, or_false] at hq
  rcases hq with rfl | rfl | rfl | rfl | rfl | rfl | rfl | rfl | rfl | rfl | rfl | rfl
  · exact nc_of (A := exN 2) (B := exN 1) (flat_of_before _ hg _ (by decide +kernel)) h1 h2
  · exact nc_of (A := exN 3) (B := exN 1) (flat_of_before _ hg _ (by decide +kernel)) h1 h2
  · exact nc_of (A := exN 3) (B := exN 2) (flat_of_before _ hg _ (by decide +kernel)) h1 h2
  · exact nc_of (A := exN 4) (B := exN 1) (flat_of_before _ hg _ (by decide +kernel)) h1 h2
  · exact nc_of (A := exN 4) (B := exN 2) (flat_of_before _ hg _ (by decide +kernel)) h1 h2
  · exact nc_of (A := exN 4) (B := exN 3) (flat_of_before _ hg _ (by decide +kernel)) h1 h2
  · exact nc_of (A := exN 5) (B := exN 1) (flat_of_before _ hg _ (by decide +kernel)) h1 h2
  · exact nc_of (A := exN 5) (B := exN 2) (flat_of_before _ hg _ (by decide +kernel)) h1 h2
  · exact nc_of (A := exN 5) (B := exN 3) (flat_of_before _ hg _ (by decide +kernel)) h1 h2
  · exact nc_of (A := exN 5) (B := exN 4) (flat_of_before _ hg _ (by decide +kernel)) h1 h2
  · exact nc_of (A := exN 6) (B := exN 1) (flat_of_before _ hg _ (by decide +kernel)) h1 h2
  · exact nc_of (A := exN 2) (B := exN 6) (flat_of_before _ hg _ (by decide +kernel)) h1 h2
