/-! THROWN EXCEPTIONS: made anew, thrown out of the method -/
def exN (n : Nat) : String := match n with
  | 1 => "java/lang/IllegalArgumentException"
  | 2 => "java/lang/UnsupportedOperationException"
  | 3 => "java/lang/IllegalStateException"
  | 4 => "java/util/NoSuchElementException"
  | 5 => "java/lang/ArithmeticException"
  | _ => "java/lang/IndexOutOfBoundsException"
def exI (n : Nat) : Nat := match n with
  | 4 => 13
  | _ => 7
def exB (n : Nat) : ByteArray := match n with
  | 4 => ⟨#[0x2a, 0x2b, 0xb7, 0x00, 0x0d, 0xb1]⟩
  | _ => Bundle.six
def exM (n : Nat) : Nat := match n with
  | 1 => 94
  | 2 => 124
  | 3 => 101
  | 4 => 142
  | 5 => 150
  | _ => 173
def exC (n : Nat) : Nat := match n with
  | 1 => 90
  | 2 => 120
  | 3 => 97
  | 4 => 138
  | 5 => 146
  | _ => 169
def rtE : String := "java/lang/RuntimeException"
def ls1 : Cond := .laysStatic Bundle.tN "UNASSIGNED_STACK" Bundle.steD
def ls2 : Cond := .laysStatic Bundle.tN "SUPPRESSED_SENTINEL" Bundle.listD
def is1 : Cond := .isRef (.static Bundle.tN "UNASSIGNED_STACK" Bundle.steD)
def is2 : Cond := .isRef (.static Bundle.tN "SUPPRESSED_SENTINEL" Bundle.listD)
def thX (n : Nat) : List Cond := [.methodLink "LowForge" (exM n) (Bundle.initS (exN n)), .instantiable (exN n) 6, .castable (exN n) (exN n), .selects (exN n) Bundle.tFill0 Bundle.tFill0, .selects (exN n) Bundle.tFill Bundle.tFill, .lays (exN n) Bundle.tN "cause" "Ljava/lang/Throwable;", .lays (exN n) Bundle.tN "stackTrace" Bundle.steD, .lays (exN n) Bundle.tN "suppressedExceptions" Bundle.listD, .lays (exN n) Bundle.tN "detailMessage" "Ljava/lang/String;", .fieldLink Bundle.tN 198 Bundle.tN "backtrace" "Ljava/lang/Object;", .lays Bundle.tN Bundle.tN "backtrace" "Ljava/lang/Object;", .lays (exN n) Bundle.tN "backtrace" "Ljava/lang/Object;"]
def thA (n : Nat) : List Cond := Bundle.throwableAtoms ++ (Bundle.throwableSAtoms ++ (Bundle.passSAtoms (exN n) rtE (exI n) (exB n) ++ (Bundle.chainSAtoms rtE ["java/lang/Exception"] ++ thX n)))
def xwD : List MethodName := [Bundle.initS rtE, Bundle.initS "java/lang/Exception", Bundle.initS Bundle.tN]
theorem thIn {n : Nat} {ps : List Nat} (h : thA n = ps.filterMap (fun i => lw_tbl[i]?)) (h2 : (thA n).all (fun c => goodWord c || (decide (c = ls1) || (decide (c = ls2) || (decide (c = .castable (exN n) (exN n)) || xwD.any (fun x => decide (c = .declares x)))))) = true) : ∀ c ∈ thA n, c ∈ TBW ∨ c = ls1 ∨ c = ls2 ∨ c = .castable (exN n) (exN n) ∨ ∃ x ∈ xwD, c = .declares x := fun c hc => by
  have h3 := List.all_eq_true.mp h2 c hc
  rw [h] at hc
  obtain ⟨i, -, hi⟩ := List.mem_filterMap.mp hc
  simp only [Bool.or_eq_true, decide_eq_true_eq, List.any_eq_true] at h3
  rcases h3 with z | z | z | z | z
  · exact Or.inl (List.mem_filter.mpr ⟨List.mem_of_getElem? hi, z⟩)
  · exact Or.inr (Or.inl z)
  · exact Or.inr (Or.inr (Or.inl z))
  · exact Or.inr (Or.inr (Or.inr (Or.inl z)))
  · exact Or.inr (Or.inr (Or.inr (Or.inr z)))
set_option maxRecDepth 20000 in
theorem thA_1 : ∀ c ∈ thA 1, c ∈ TBW ∨ c = ls1 ∨ c = ls2 ∨ c = .castable (exN 1) (exN 1) ∨ ∃ x ∈ xwD, c = .declares x := thIn (ps := [108, 617, 626, 633, 636, 638, 618, 619, 126, 127, 620, 625, 634, 654, 607, 655, 609, 656, 611, 621, 622, 623, 624, 613, 650, 651, 653, 613, 641, 642, 643, 644, 599, 644, 645, 646, 647, 601, 647, 648, 649, 650, 603, 640, 596, 597, 604, 605, 606, 608, 610, 612, 616, 615, 614]) (by decide +kernel) (by decide +kernel)
set_option maxRecDepth 20000 in
theorem thC_1 : Cond.classLink "LowForge" (exC 1) (exN 1) ∈ TBW ∧ Cond.initialized (exN 1) ∈ TBW := ⟨tb3 21 rfl rfl, tb1 17 rfl rfl⟩
set_option maxRecDepth 20000 in
theorem thA_2 : ∀ c ∈ thA 2, c ∈ TBW ∨ c = ls1 ∨ c = ls2 ∨ c = .castable (exN 2) (exN 2) ∨ ∃ x ∈ xwD, c = .declares x := thIn (ps := [108, 617, 626, 633, 636, 638, 618, 619, 126, 127, 620, 625, 634, 654, 607, 655, 609, 656, 611, 621, 622, 623, 624, 613, 650, 651, 653, 613, 955, 956, 957, 644, 599, 644, 645, 646, 647, 601, 647, 648, 649, 650, 603, 954, 945, 946, 947, 631, 948, 949, 950, 951, 616, 615, 952]) (by decide +kernel) (by decide +kernel)
set_option maxRecDepth 20000 in
theorem thC_2 : Cond.classLink "LowForge" (exC 2) (exN 2) ∈ TBW ∧ Cond.initialized (exN 2) ∈ TBW := ⟨tb4 130 rfl rfl, tb1 21 rfl rfl⟩
set_option maxRecDepth 20000 in
theorem thA_3 : ∀ c ∈ thA 3, c ∈ TBW ∨ c = ls1 ∨ c = ls2 ∨ c = .castable (exN 3) (exN 3) ∨ ∃ x ∈ xwD, c = .declares x := thIn (ps := [108, 617, 626, 633, 636, 638, 618, 619, 126, 127, 620, 625, 634, 654, 607, 655, 609, 656, 611, 621, 622, 623, 624, 613, 650, 651, 653, 613, 677, 678, 679, 644, 599, 644, 645, 646, 647, 601, 647, 648, 649, 650, 603, 676, 667, 668, 669, 629, 670, 671, 672, 673, 616, 615, 674]) (by decide +kernel) (by decide +kernel)
set_option maxRecDepth 20000 in
theorem thC_3 : Cond.classLink "LowForge" (exC 3) (exN 3) ∈ TBW ∧ Cond.initialized (exN 3) ∈ TBW := ⟨tb3 92 rfl rfl, tb1 18 rfl rfl⟩
set_option maxRecDepth 20000 in
theorem thA_4 : ∀ c ∈ thA 4, c ∈ TBW ∨ c = ls1 ∨ c = ls2 ∨ c = .castable (exN 4) (exN 4) ∨ ∃ x ∈ xwD, c = .declares x := thIn (ps := [108, 617, 626, 633, 636, 638, 618, 619, 126, 127, 620, 625, 634, 654, 607, 655, 609, 656, 611, 621, 622, 623, 624, 613, 650, 651, 653, 613, 1059, 1060, 1061, 644, 599, 644, 645, 646, 647, 601, 647, 648, 649, 650, 603, 1058, 1049, 1050, 1051, 632, 1052, 1053, 1054, 1055, 616, 615, 1056]) (by decide +kernel) (by decide +kernel)
set_option maxRecDepth 20000 in
theorem thC_4 : Cond.classLink "LowForge" (exC 4) (exN 4) ∈ TBW ∧ Cond.initialized (exN 4) ∈ TBW := ⟨tb4 234 rfl rfl, tb1 23 rfl rfl⟩
set_option maxRecDepth 20000 in
theorem thA_5 : ∀ c ∈ thA 5, c ∈ TBW ∨ c = ls1 ∨ c = ls2 ∨ c = .castable (exN 5) (exN 5) ∨ ∃ x ∈ xwD, c = .declares x := thIn (ps := [108, 617, 626, 633, 636, 638, 618, 619, 126, 127, 620, 625, 634, 654, 607, 655, 609, 656, 611, 621, 622, 623, 624, 613, 650, 651, 653, 613, 1079, 1080, 1081, 644, 599, 644, 645, 646, 647, 601, 647, 648, 649, 650, 603, 1078, 1069, 1070, 1071, 628, 1072, 1073, 1074, 1075, 616, 615, 1076]) (by decide +kernel) (by decide +kernel)
set_option maxRecDepth 20000 in
theorem thC_5 : Cond.classLink "LowForge" (exC 5) (exN 5) ∈ TBW ∧ Cond.initialized (exN 5) ∈ TBW := ⟨tb5 14 rfl rfl, tb1 24 rfl rfl⟩
set_option maxRecDepth 20000 in
theorem thA_6 : ∀ c ∈ thA 6, c ∈ TBW ∨ c = ls1 ∨ c = ls2 ∨ c = .castable (exN 6) (exN 6) ∨ ∃ x ∈ xwD, c = .declares x := thIn (ps := [108, 617, 626, 633, 636, 638, 618, 619, 126, 127, 620, 625, 634, 654, 607, 655, 609, 656, 611, 621, 622, 623, 624, 613, 650, 651, 653, 613, 1142, 1143, 1144, 644, 599, 644, 645, 646, 647, 601, 647, 648, 649, 650, 603, 1141, 1132, 1133, 1134, 630, 1135, 1136, 1137, 1138, 616, 615, 1139]) (by decide +kernel) (by decide +kernel)
set_option maxRecDepth 20000 in
theorem thC_6 : Cond.classLink "LowForge" (exC 6) (exN 6) ∈ TBW ∧ Cond.initialized (exN 6) ∈ TBW := ⟨tb5 77 rfl rfl, tb1 25 rfl rfl⟩
theorem thA_ok {n : Nat} (h1 : 1 ≤ n) (h2 : n ≤ 6) : ∀ c ∈ thA n, c ∈ TBW ∨ c = ls1 ∨ c = ls2 ∨ c = .castable (exN n) (exN n) ∨ ∃ x ∈ xwD, c = .declares x := by
  rcases (by omega : n = 1 ∨ n = 2 ∨ n = 3 ∨ n = 4 ∨ n = 5 ∨ n = 6) with rfl | rfl | rfl | rfl | rfl | rfl
  · exact thA_1
  · exact thA_2
  · exact thA_3
  · exact thA_4
  · exact thA_5
  · exact thA_6
theorem thC_ok {n : Nat} (h1 : 1 ≤ n) (h2 : n ≤ 6) : Cond.classLink "LowForge" (exC n) (exN n) ∈ TBW ∧ Cond.initialized (exN n) ∈ TBW := by
  rcases (by omega : n = 1 ∨ n = 2 ∨ n = 3 ∨ n = 4 ∨ n = 5 ∨ n = 6) with rfl | rfl | rfl | rfl | rfl | rfl
  · exact thC_1
  · exact thC_2
  · exact thC_3
  · exact thC_4
  · exact thC_5
  · exact thC_6
theorem exB_dec {n : Nat} : decode (exB n) 0 = .ok (.aload_n 0, 1) ∧ decode (exB n) 1 = .ok (.aload_n 1, 1) ∧ decode (exB n) 2 = .ok (.invokespecial (exI n), 3) ∧ decode (exB n) 5 = .ok (.return_, 1) := by
  by_cases h : n = 4
  · subst h; decide +kernel
  · have e1 : exB n = Bundle.six := by unfold exB; split <;> first | rfl | (exact absurd rfl h)
    have e2 : exI n = 7 := by unfold exI; split <;> first | rfl | (exact absurd rfl h)
    rw [e1, e2]
    decide +kernel
theorem exN_fit {n : Nat} : Bundle.fit (exN n) = true := by
  unfold exN
  split <;> decide +kernel
/-- a static that nobody writes, and holds a reference or null -/
def LSt (O f d : String) (U : State) : Prop := ∃ (c : ClassId) (k : Class) (i : Nat) (fd : Field) (a : Nat) (cell : Cell) (v : Value), U.vm.findClass O = some c ∧ U.fieldFound? O f d = some (c, k, i, fd) ∧ fd.isStatic = true ∧ k.statics = some a ∧ U.heap[a]? = some cell ∧ cell.vm.isStatics = true ∧ cell.cls = c ∧ fd.slot < cell.slots.size ∧ k.staticTypes[fd.slot]? = some fd.type ∧ (Cond.isRef (.static O f d)).before #[] U = true ∧ cell.slots[fd.slot]? = some v
theorem isRef_eval {O f d : String} {A A' : Array Value} {s t : State} (h : (Jvm.Term.static O f d).eval A' t none [] t = (Jvm.Term.static O f d).eval A s none [] s) (h1 : (Cond.isRef (.static O f d)).before A s = true) : (Cond.isRef (.static O f d)).before A' t = true := by
  simp only [Cond.before, Cond.holds, Cond.value] at h1 ⊢
  rw [h]
  exact h1
theorem static_ev {O f d : String} {A : Array Value} {s : State} {c : ClassId} {k : Class} {i : Nat} {fd : Field} {a : Nat} {cell : Cell} (hf : s.fieldFound? O f d = some (c, k, i, fd)) (hst : fd.isStatic = true) (hsta : k.statics = some a) (hcell : s.heap[a]? = some cell) (hiss : cell.vm.isStatics = true) : (Jvm.Term.static O f d).eval A s none [] s = cell.slots[fd.slot]? := by
  simp [Jvm.Term.eval, State.fieldNamed?, hf, hst, hsta, hcell, hiss]
theorem LSt.of {A : Array Value} {s : State} {O f d : String} (h1 : (Cond.laysStatic O f d).before A s = true) (h2 : (Cond.isRef (.static O f d)).before A s = true) : LSt O f d s := by
  obtain ⟨c, k, i, fd, a, cell, hc, hf, hst, hsta, hcell, hiss, hcls, hlt, hty⟩ := Cond.laysStatic_spec h1
  exact ⟨c, k, i, fd, a, cell, _, hc, hf, hst, hsta, hcell, hiss, hcls, hlt, hty, isRef_eval ((static_ev hf hst hsta hcell hiss).trans (static_ev hf hst hsta hcell hiss).symm) h2, Array.getElem?_eq_getElem hlt⟩
theorem LSt.cond {s : State} {O f d : String} (h : LSt O f d s) (A : Array Value) : (Cond.laysStatic O f d).before A s = true ∧ (Cond.isRef (.static O f d)).before A s = true := by
  obtain ⟨c, k, i, fd, a, cell, v, hc, hf, hst, hsta, hcell, hiss, hcls, hlt, hty, hr, hv⟩ := h
  exact ⟨Cond.laysStatic_of (first := s) (o := none) (idx := []) hc hf hst hsta hcell hiss hcls hlt hty, isRef_eval ((static_ev hf hst hsta hcell hiss).trans (static_ev hf hst hsta hcell hiss).symm) hr⟩
theorem LSt.moved {u U : State} {O f d : String} (hA : u.vm.Alike U.vm) (hh : ∀ (a : Nat) (cell : Cell), u.heap[a]? = some cell → cell.vm.isStatics = true → U.heap[a]? = some cell) (h : LSt O f d u) : LSt O f d U := by
  obtain ⟨c, k, i, fd, a, cell, v, hc, hf, hst, hsta, hcell, hiss, hcls, hlt, hty, hr, hv⟩ := h
  obtain ⟨k', hi', hek⟩ := State.fieldFound?_setVm hA hf
  have hf' : U.fieldFound? O f d = some (c, k', i, fd) := hi'
  have hc' : U.vm.findClass O = some c := by rw [hA.findClass]; exact hc
  have hs' : k'.statics = some a := by rw [hek]; exact hsta
  exact ⟨c, k', i, fd, a, cell, v, hc', hf', hst, hs', hh a cell hcell hiss, hiss, hcls, hlt, by rw [hek]; exact hty, isRef_eval ((static_ev hf' hst hs' (hh a cell hcell hiss) hiss).trans (static_ev hf hst hsta hcell hiss).symm) hr, hv⟩
/-- the messages -/
def strZ : List (Nat × String) := [(92, "a byte is no character of a text"), (99, "the text would be too long"), (114, "the text has a fault"), (122, "the text has a type error"), (129, "a width is not resolved"), (140, "a sink is not connected on every path"), (148, "signals depend on one another in a loop"), (163, "there is no such property"), (171, "there is no such ground signal"), (194, "the signal is not set from outside"), (203, "so many clocks are not run at once"), (205, "nothing is compiled"), (216, "there is no such count")]
/-- what a throw needs of the state beside the tables' words -/
def ThrK (U : State) : Prop := LSt Bundle.tN "UNASSIGNED_STACK" Bundle.steD U ∧ LSt Bundle.tN "SUPPRESSED_SENTINEL" Bundle.listD U ∧ (∀ q ∈ strZ, ∃ a, vk_R "LowForge" q.1 q.2 a U) ∧ (∀ x ∈ xwD, va_Nw (.declares x) U) ∧ ∀ n, 1 ≤ n → n ≤ 6 → va_Nw (.castable (exN n) (exN n)) U
theorem ThrK.moved {u U : State} (hW : u.WarmedH U.vm) (hh : ∀ (a : Nat) (cell : Cell), u.heap[a]? = some cell → cell.vm.isStatics = true → U.heap[a]? = some cell) (h : ThrK u) : ThrK U :=
  ⟨h.1.moved hW.alike hh, h.2.1.moved hW.alike hh, fun q hq => by obtain ⟨a, ha⟩ := h.2.2.1 q hq; exact ⟨a, vk_R.warm hW ha⟩, fun x hx => va_Nw.warmD hW (h.2.2.2.1 x hx), fun n h1 h2 => va_Nw.warmC hW (h.2.2.2.2 n h1 h2)⟩
section TH
variable {p : Program} {l : Launch} {e : Env} {R : Room} {s : State} {m : MethodId} {args : Array Value} {below : List Frame} {meth : Method} {c : Code} {W : State} {locs : List Loc} {cells slots : Nat}
set_option maxHeartbeats 4000000 in
/-- the constructor runs, the exception leaves the method: what the heap is then -/
theorem thr_ctor (X : Stand p l e R s m args below meth c W locs cells slots) (hexec : p.tables.exec = Jvm.exec) (htr : e.platform.stackTraces = false) {n : Nat}
    (hown : s.vm.findClass "LowForge" = some m.cls) (h : ∀ a ∈ thA n, a.before args s = true) (hi1 : is1.before args s = true) (hi2 : is2.before args s = true)
    (hlocs : ∀ x ∈ locs, ∀ cell, s.heap[x.base]? = some cell → cell.vm.isStatics = false)
    {a : Addr} {cX : ClassId} {kX : Class} (hfoundX : s.vm.findClass (exN n) = some cX) (hkX : s.vm.classes[cX]? = some kX) (hcell : W.heap[a]? = some (freshCell cX kX)) (hnew : s.heap.size ≤ a)
    {msg : Value} (hmsg : msg.isRef = true)
    {g : JFrame} (hg : g.method = m) (hsize : g.locals.size = c.maxLocals) (hlocked : g.locked = none) (hentered : g.entered = []) {rest : List Value} (hstack : g.stack = msg :: .ref a :: .ref a :: rest)
    (hd6 : decode c.code g.pc = .ok (.invokespecial (exM n), 3)) (hd9 : decode c.code (g.pc + 3) = .ok (.athrow, 1)) (hout : ∀ x ∈ c.exceptionTable.toList, covers x (g.pc + 3) = false)
    (hRframes : 6 < R.frames) (hRlocals : 2 * g.monitorRoom + ((Value.ref a :: rest).map fun v => v.category).sum + 100 ≤ R.locals) (hlocks : meth.locks = false) :
    ∃ (U : State) (ce : Cell), Steps p.tables e below (W.setTop g) U ∧ U.status = .running ∧ Ended U below (.threw a) ∧ s.WarmedH U.vm ∧ s.sameButNew ({ U with vm := s.vm } : State) locs cells slots ∧ U.heap = W.heap.setIfInBounds a ce ∧ ce.cls = cX ∧ ce.vm = .none := by
  have howns : e.platform.frameOwnsMonitors = true := by rw [X.admits.platform]
  have hfin : e.platform.finalization = false := by rw [X.admits.platform]
  have hpl : e.platform.magicAccessors = ({} : Platform).magicAccessors := by rw [X.admits.platform]
  have m1 : ∀ q ∈ Bundle.throwableAtoms, q.before args s = true := fun q hq => h q (List.mem_append_left _ hq)
  have m2 : ∀ q ∈ Bundle.throwableSAtoms, q.before args s = true := fun q hq => h q (List.mem_append_right _ (List.mem_append_left _ hq))
  have m3 : ∀ q ∈ Bundle.passSAtoms (exN n) rtE (exI n) (exB n), q.before args s = true := fun q hq => h q (List.mem_append_right _ (List.mem_append_right _ (List.mem_append_left _ hq)))
  have m4 : ∀ q ∈ Bundle.chainSAtoms rtE ["java/lang/Exception"], q.before args s = true := fun q hq => h q (List.mem_append_right _ (List.mem_append_right _ (List.mem_append_right _ (List.mem_append_left _ hq))))
  have m5 : ∀ q ∈ thX n, q.holds args s none s [] = true := fun q hq => h q (List.mem_append_right _ (List.mem_append_right _ (List.mem_append_right _ (List.mem_append_right _ hq))))
  obtain ⟨T, Z0, L, -, Y⟩ := ThrowableC.of_atoms (args := args) howns hfin hpl m1
  obtain ⟨Z, M, LZ, LM, hnZ⟩ := Init0T.ofS_atoms (args := args) hpl L Y m2
  obtain ⟨d0, d1, d2, d5⟩ := exB_dec (n := n)
  obtain ⟨P1, L1, hP1m, hs1⟩ := PassC.ofS_atoms (args := args) (s := s) hpl (X := exN n) (Y := rtE) (Bundle.fit_spec exN_fit).1 (by decide) d0 d1 d2 d5 m3
  obtain ⟨P2, Ps, hlen, L2, hL, hP2m, hlink2, hlink⟩ := Bundle.chainS (args := args) hpl hnZ ["java/lang/Exception"] rtE (by decide +kernel) (by decide +kernel) m4
  have hlink1 : P1.sup = P2.m := Option.some.inj (hs1.symm.trans hP2m)
  have hfound : s.vm.findClass (exN n) = some P1.m.cls := findClass_of_methodNamed hP1m
  cases Option.some.inj (hfoundX.symm.trans hfound)
  obtain ⟨c1, kX', hc1, hk, hord, -, -, hn6⟩ := Cond.instantiable_spec (m5 (.instantiable (exN n) 6) (by simp [thX]))
  cases Option.some.inj (hc1.symm.trans hfound)
  cases Option.some.inj (hkX.symm.trans hk)
  have hsel0 : selectMethod e.platform s.vm P1.m.cls T.fill0 = .method T.fill0 := by
    obtain ⟨c2, r2, m2, q1, q2, q3, q4, -⟩ := Cond.selects_spec (m5 (.selects (exN n) Bundle.tFill0 Bundle.tFill0) (by simp [thX]))
    cases Option.some.inj (q1.symm.trans hfound)
    cases Option.some.inj (q2.symm.trans (State.methodFound?_of_named Y.fill0 (by decide)))
    cases Option.some.inj (q3.symm.trans Y.fill0)
    rw [Launch.admits_selectMethod X.admits]; exact q4
  have hselF : selectMethod e.platform s.vm P1.m.cls T.fill = .method T.fill := by
    obtain ⟨c2, r2, m2, q1, q2, q3, q4, -⟩ := Cond.selects_spec (m5 (.selects (exN n) Bundle.tFill Bundle.tFill) (by simp [thX]))
    cases Option.some.inj (q1.symm.trans hfound)
    cases Option.some.inj (q2.symm.trans (State.methodFound?_of_named Y.fill (by decide)))
    cases Option.some.inj (q3.symm.trans Y.fill)
    rw [Launch.admits_selectMethod X.admits]; exact q4
  obtain ⟨cellS0, hcS0, hiss⟩ := Y.statics
  obtain ⟨u0, hu0⟩ := Cond.staticRefV Y.unassigned L.unassignedStatic L.statics hcS0 hiss (show is1.holds args s none s [] = true from hi1)
  obtain ⟨sen, hsen⟩ := Cond.staticRefV Y.sentinel L.sentinelStatic L.statics hcS0 hiss (show is2.holds args s none s [] = true from hi2)
  obtain ⟨ci198, i198, fB, hk198, hg198, ha198, hsB, -, hnB, htB, hffB⟩ := Cond.ownField (t := .object "java/lang/Object") Y.found L.cls (by decide +kernel) (m5 (.fieldLink Bundle.tN 198 Bundle.tN "backtrace" "Ljava/lang/Object;") (by simp [thX])) (m5 (.lays Bundle.tN Bundle.tN "backtrace" "Ljava/lang/Object;") (by simp [thX])) e.platform hpl
  obtain ⟨cellS, hcS', heS, -, hkeep⟩ := X.same.2.2.2.2.2 T.aS cellS0 hcS0
  have hcellS : W.heap[T.aS]? = some cellS := hcS'
  have hout' : ∀ i, (⟨T.aS, i⟩ : Loc) ∉ locs := fun i hmem => by
    have := hlocs _ hmem cellS0 hcS0
    rw [hiss] at this; cases this
  have hknownS : cellS.vm ≠ .unknown := by
    rw [heS]; intro hu
    rw [show cellS0.vm = .unknown from hu] at hiss
    cases hiss
  have hneS : T.aS ≠ a := Nat.ne_of_lt (Nat.lt_of_lt_of_le (Array.getElem?_eq_some_iff.mp hcS0).1 hnew)
  obtain ⟨iM, hffM⟩ := Y.msg
  obtain ⟨tyC, dC, hdC, hdnC⟩ := Cond.laysAt hfound hk Y.cause (m5 (.lays (exN n) Bundle.tN "cause" "Ljava/lang/Throwable;") (by simp [thX]))
  obtain ⟨tyS, dS, hdS, hdnS⟩ := Cond.laysAt hfound hk Y.stack (m5 (.lays (exN n) Bundle.tN "stackTrace" Bundle.steD) (by simp [thX]))
  obtain ⟨tyP, dP, hdP, hdnP⟩ := Cond.laysAt hfound hk Y.supp (m5 (.lays (exN n) Bundle.tN "suppressedExceptions" Bundle.listD) (by simp [thX]))
  obtain ⟨tyM, dM, hdM, hdnM⟩ := Cond.laysAt hfound hk hffM (m5 (.lays (exN n) Bundle.tN "detailMessage" "Ljava/lang/String;") (by simp [thX]))
  obtain ⟨tyB, dB, hdB, hdnB⟩ := Cond.laysAt hfound hk hffB (m5 (.lays (exN n) Bundle.tN "backtrace" "Ljava/lang/Object;") (by simp [thX]))
  have bC := Cond.laysApart hdB hdC hdnB hdnC (by rw [hnB, Y.causeName]; decide)
  have bS := Cond.laysApart hdB hdS hdnB hdnS (by rw [hnB, Y.stackName]; decide)
  have bP := Cond.laysApart hdB hdP hdnB hdnP (by rw [hnB, Y.suppName]; decide)
  have hskip : SkipFacts T e.platform s (fun u => u) u0 ((preparedCellV T.toThrowableT (freshCell P1.m.cls kX) a u0 sen).withEntry W.cur) :=
    ⟨{ ci198 := ci198, i198 := i198, fBack := fB }, ⟨hk198, hg198, ha198, hsB⟩, by
      have := fresh_default (c := P1.m.cls) tyB
      rw [htB] at this
      simpa [preparedCellV, Cell.setSlot, Cell.withEntry, Array.getElem?_setIfInBounds, bC, bS, bP, bC.symm, bS.symm, bP.symm, defaultValue] using this, fun _ _ => rfl⟩
  obtain ⟨tm, methC, cdC, kC, vm₁, hnC, -, -, -, -, -, -, -, hW₁, st1⟩ := Steps.initColdS (tb := p.tables) (e := e) (below := below) (s := s) (U := W) X.here hexec X.warmed hpl hown (t := Bundle.initS (exN n)) rfl rfl (Bundle.fit_spec exN_fit).2
    (m5 (.methodLink "LowForge" (exM n) (Bundle.initS (exN n))) (by simp [thX])) (m3 (.instanceMethod (Bundle.initS (exN n))) (by simp [Bundle.passSAtoms])) (bytes := exB n) (maxL := 2) (m3 (.code (Bundle.initS (exN n)) (exB n) 2 none) (by simp [Bundle.passSAtoms]))
    (f := g) hg (a := a) (msg := msg) (rest := .ref a :: rest) hstack hd6
  cases Option.some.inj (hnC.symm.trans hP1m)
  have X₁ := X.noted hW₁
  obtain ⟨vm₂, X₂, st2⟩ := X₁.ctorMessageOffV hexec (g := { g with stack := .ref a :: rest }) hg hsize T L Z LZ M LM (P1 :: P2 :: Ps)
    (fun P hP => by
      rcases List.mem_cons.mp hP with rfl | hP
      · exact L1
      · rcases List.mem_cons.mp hP with rfl | hP
        · exact L2
        · exact hL P hP) ⟨hlink1, hlink2, hlink⟩ (u0 := u0) (sen := sen) (self := a) hmsg (cell := freshCell P1.m.cls kX) (cellS := cellS)
    hcell (fun _ => by simp) (by simp) rfl rfl hsel0 hselF hcellS hneS hknownS (by rw [hkeep _ (hout' _)]; exact hu0) (by rw [hkeep _ (hout' _)]; exact hsen)
    (Takes.of_laid hk hord tyC (by rw [Y.causeType]; rfl)) (Takes.of_laid hk hord tyS (by rw [Y.stackType]; exact fits_refV_array _ u0)) (Takes.of_laid hk hord tyP (by rw [Y.suppType]; exact fits_refV_object _ sen))
    (Takes.of_laid hk hord tyM (by rw [Y.msgType]; exact fits_refV_object _ ⟨msg, hmsg⟩)) Y.objLocals hskip htr [] hd6
    (by simp only [List.length_cons, hlen, List.length_nil]; omega) (by simp only [List.length_cons, hlen, List.length_nil]; exact Nat.le_trans (by show _ ≤ 2 * g.monitorRoom + ((Value.ref a :: rest).map fun v => v.category).sum + 100; exact Nat.add_le_add_left (by decide) _) hRlocals)
  obtain ⟨hwalk, hrun, hended, hWU, hsame⟩ := X₂.athrowLeaves hexec (g := { g with stack := .ref a :: rest, pc := g.pc + 3 }) hg hlocked hentered hout (a := a) (rest := rest) rfl hd9 hlocks
  refine ⟨_, _, st1 _ (fun acts => ?_), hrun, hended, hWU, hsame.weaken (fun y hy hlt' => ?_) (Nat.le_refl _) (Nat.le_refl _), rfl, ?_, ?_⟩
  · rw [doInvoke_state]
    exact st2 _ hwalk
  · rcases List.mem_append.mp hy with h1 | h1
    · exact h1
    · exfalso
      have hb : y.base = a := by
        simp only [List.mem_cons, List.not_mem_nil, or_false] at h1
        rcases h1 with rfl | rfl | rfl | rfl | rfl <;> rfl
      rw [hb] at hlt'
      exact Nat.not_lt.mpr hnew hlt'
  · simp [plainBareV, preparedCellV, Cell.setSlot]
  · simp [plainBareV, preparedCellV, Cell.setSlot]
end TH
