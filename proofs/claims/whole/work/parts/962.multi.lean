/-! a table of three rows of 24 numbers -/
def mIn (cI : ClassId) : Cell := { cls := cI, slots := Array.replicate 24 (.int 0), vm := .none }
def mOut (cO : ClassId) (a : Nat) : Nat → Cell
  | 0 => { cls := cO, slots := Array.replicate 3 .null, vm := .none }
  | n + 1 => (mOut cO a n).setSlot n (.ref (a + 1 + n))
/-- n rows are made -/
def mAt (u : State) (cO cI : ClassId) : Nat → State
  | 0 => u.pushCell (mOut cO u.heap.size 0)
  | n + 1 => ((mAt u cO cI n).pushCell (mIn cI)).setCell u.heap.size (mOut cO u.heap.size (n + 1))
theorem mOut_at (cO : ClassId) (a : Nat) : ∀ n, (mOut cO a n).cls = cO ∧ (mOut cO a n).vm = .none ∧ (mOut cO a n).slots.size = 3 := by
  intro n
  induction n with
  | zero => exact ⟨rfl, rfl, Array.size_replicate⟩
  | succ n ih =>
    obtain ⟨h1, h2, h3⟩ := ih
    exact ⟨h1, h2, by show ((mOut cO a n).slots.setIfInBounds n _).size = 3; rw [Array.size_setIfInBounds]; exact h3⟩
theorem mAt_at (u : State) (cO cI : ClassId) : ∀ n, (mAt u cO cI n).heap.size = u.heap.size + 1 + n ∧ (mAt u cO cI n).heap[u.heap.size]? = some (mOut cO u.heap.size n) ∧ (mAt u cO cI n).vm = u.vm ∧ (mAt u cO cI n).slotsUsed = u.slotsUsed + 3 + 24 * n ∧ (∀ q, q < u.heap.size → (mAt u cO cI n).heap[q]? = u.heap[q]?) ∧ (∀ i, i < n → (mAt u cO cI n).heap[u.heap.size + 1 + i]? = some (mIn cI)) := by
  intro n
  induction n with
  | zero =>
    refine ⟨by show (u.heap.push _).size = _; rw [Array.size_push], by show (u.heap.push _)[_]? = _; rw [Array.getElem?_push_size], rfl, ?_, fun q hq => ?_, fun i hi => absurd hi (Nat.not_lt_zero i)⟩
    · show u.slotsUsed + (Array.replicate 3 Value.null).size = _
      rw [Array.size_replicate]
    · show (u.heap.push _)[q]? = _
      rw [Array.getElem?_push, if_neg (Nat.ne_of_lt hq)]
  | succ n ih =>
    obtain ⟨h1, h2, h3, h4, h5, h6⟩ := ih
    have hs : ((mAt u cO cI n).heap.push (mIn cI)).size = u.heap.size + 1 + n + 1 := by rw [Array.size_push, h1]
    have hH : (mAt u cO cI (n + 1)).heap = ((mAt u cO cI n).heap.push (mIn cI)).setIfInBounds u.heap.size (mOut cO u.heap.size (n + 1)) := rfl
    refine ⟨by rw [hH, Array.size_setIfInBounds, hs]; omega, ?_, h3, ?_, fun q hq => ?_, fun i hi => ?_⟩
    · rw [hH, Array.getElem?_setIfInBounds, if_pos rfl, if_pos (by rw [hs]; omega)]
    · show (mAt u cO cI n).slotsUsed + (Array.replicate 24 (Value.int 0)).size = _
      rw [h4, Array.size_replicate]
      omega
    · rw [hH, Array.getElem?_setIfInBounds, if_neg (by omega), Array.getElem?_push, if_neg (by omega)]
      exact h5 q hq
    · rw [hH, Array.getElem?_setIfInBounds, if_neg (by omega), Array.getElem?_push]
      by_cases z : i = n
      · rw [if_pos (by rw [h1, z])]
      · rw [if_neg (by rw [h1]; omega)]
        exact h6 i (by omega)
section MM
variable {E : CtlPost} {e : Env} {d : Bool} {acts : List Action} {u : State}
theorem mm_new {cA comp : ClassId} {k : Class} {ty : FieldType} {len : Nat} {v : Value} (hk : u.vm.classes[cA]? = some k) (hkd : k.kind = .array comp ty) (hl : ¬ len > e.platform.arrayLengthLimit) (hh : ¬ len * componentBytes ty > e.platform.maxHeapBytes) (hf : fits ty v = true) (hdv : v.isDefault = true)
    (h1 : u.heap.size < e.platform.maxCells) (h2 : u.slotsUsed + len ≤ e.platform.maxSlots) {Q : Addr → Pre} (hq : Q u.heap.size d acts (u.pushCell { cls := cA, slots := Array.replicate len v, vm := .none })) : wp (Jvm.newArray cA len v) Q E e d acts u := by
  have hall : (Array.replicate len v).all (·.isDefault) = true := by
    rw [Array.all_replicate]
    split
    · rfl
    · exact hdv
  have hfit : ∀ i x, (Array.replicate len v)[i]? = some x → u.fitsSlot cA .none i x = true := fun i x hx => by
    rw [Array.getElem?_replicate] at hx
    split at hx
    · obtain rfl := Option.some.inj hx
      simp [State.fitsSlot, State.slotType?, hk, hkd, hf]
    · cases hx
  have h3 : ¬ len > e.platform.maxSlots := by omega
  have hda : allocActs (Array.replicate len v) u.heap.size acts = acts := by unfold allocActs; rw [if_pos hall]
  simp only [Jvm.newArray, Jvm.arrayFits, wp_bind', Jvm.W.ask, Jvm.W.ite, Jvm.W.theClass, Jvm.W.alloc, wp_pure', hl, hh, h3, hk, hkd, if_false, Option.some.injEq, exists_eq_left', hda, Array.size_replicate]
  exact ⟨h1, h2, hfit, hq⟩
theorem mm_in {cI cc : ClassId} {k : Class} (hk : u.vm.classes[cI]? = some k) (hkd : k.kind = .array cc .int) (hl : ¬ 24 > e.platform.arrayLengthLimit) (hh : ¬ 24 * 4 > e.platform.maxHeapBytes)
    (h1 : u.heap.size < e.platform.maxCells) (h2 : u.slotsUsed + 24 ≤ e.platform.maxSlots) {Q : Addr → Pre} (hq : Q u.heap.size d acts (u.pushCell (mIn cI))) : wp (Op.multianewarray.make cI [24]) Q E e d acts u := by
  rw [Op.multianewarray.make]
  simp only [wp_bind', Jvm.W.ite, show ¬ (24 : Int32) < 0 by decide, if_false, wp_pure', Jvm.W.theClass, hk, hkd, Option.some.injEq, exists_eq_left']
  exact mm_new hk hkd hl hh rfl rfl h1 h2 hq
/-- one row more -/
theorem mm_row {cO cI comp cc : ClassId} {kO kI : Class} {n : Nat} (hO : u.vm.classes[cO]? = some kO) (hOd : kO.kind = .array comp (.array .int)) (hk : u.vm.classes[cI]? = some kI) (hkd : kI.kind = .array cc .int) (hl : ¬ 24 > e.platform.arrayLengthLimit) (hh : ¬ 24 * 4 > e.platform.maxHeapBytes) (hn : n < 3)
    (h1 : u.heap.size + 4 ≤ e.platform.maxCells) (h2 : u.slotsUsed + 75 ≤ e.platform.maxSlots) {α : Type} {r : Sem α} {Q : α → Pre} (hq : ∀ acts', wp r Q E e true acts' (mAt u cO cI (n + 1))) :
    wp (Op.multianewarray.make cI [24]) (fun a => wp (Jvm.writeLoc u.heap.size n (.ref a) >>= fun _ => r) Q E e) E e d acts (mAt u cO cI n) := by
  obtain ⟨a1, a2, a3, a4, -, -⟩ := mAt_at u cO cI n
  obtain ⟨o1, o2, o3⟩ := mOut_at cO u.heap.size n
  refine mm_in (by rw [a3]; exact hk) hkd hl hh (by rw [a1]; omega) (by rw [a4]; omega) ?_
  simp only [wp_bind', Jvm.W.writeLoc]
  refine ⟨mOut cO u.heap.size n, ?_, ?_, ?_, ?_, ?_⟩
  · show ((mAt u cO cI n).heap.push _)[_]? = _
    rw [Array.getElem?_push, if_neg (by rw [a1]; omega), a2]
  · rw [o2]; exact fun h => by cases h
  · rw [o3]; exact hn
  · have hv : (mAt u cO cI n).vm.classes[cO]? = some kO := by rw [a3]; exact hO
    rw [o1, o2]
    simp [State.fitsSlot, State.slotType?, hv, hOd, fits]
  · rw [a1]
    exact hq _
theorem mm_out {cO cI cc : ClassId} {kO kI : Class} (hO : u.vm.classes[cO]? = some kO) (hOd : kO.kind = .array cI (.array .int)) (hk : u.vm.classes[cI]? = some kI) (hkd : kI.kind = .array cc .int) (hl : ¬ 24 > e.platform.arrayLengthLimit) (hh : ¬ 24 * 4 > e.platform.maxHeapBytes)
    (h1 : u.heap.size + 4 ≤ e.platform.maxCells) (h2 : u.slotsUsed + 75 ≤ e.platform.maxSlots) {Q : Addr → Pre} (hq : ∀ acts', Q u.heap.size true acts' (mAt u cO cI 3)) :
    wp (Op.multianewarray.make cO [3, 24]) Q E e d acts u := by
  rw [Op.multianewarray.make]
  simp only [wp_bind', Jvm.W.ite, show ¬ (3 : Int32) < 0 by decide, if_false, wp_pure', Jvm.W.theClass, hO, hOd, Option.some.injEq, exists_eq_left']
  refine mm_new hO hOd (by show ¬ (3 : Nat) > _; omega) (by show ¬ (3 : Nat) * 4 > _; omega) rfl rfl (by omega) (by show _ + (3 : Nat) ≤ _; omega) ?_
  simp only [show ([24] : List Int32).find? (· < 0) = none by decide, ite_self, wp_bind', Std.Legacy.Range.forIn_eq_forIn_range']
  rw [show (List.range' 0 [:Int32.toNatClampNeg 3].size) = [0, 1, 2] by decide, show Int32.toNatClampNeg 3 = 3 by decide]
  simp only [List.forIn_cons, List.forIn_nil, wp_bind', wp_pure']
  refine mm_row (n := 0) hO hOd hk hkd hl hh (by decide) h1 h2 (fun acts1 => ?_)
  simp only [wp_bind', wp_pure']
  refine mm_row (n := 1) hO hOd hk hkd hl hh (by decide) h1 h2 (fun acts2 => ?_)
  simp only [wp_bind', wp_pure']
  refine mm_row (n := 2) hO hOd hk hkd hl hh (by decide) h1 h2 (fun acts3 => ?_)
  simp only [wp_bind', wp_pure']
  exact hq _
end MM
theorem mAt_top (u : State) (f : JFrame) (cO cI : ClassId) : ∀ n, mAt (u.setTop f) cO cI n = (mAt u cO cI n).setTop f := by
  intro n
  induction n with
  | zero => rfl
  | succ n ih =>
    show ((mAt (u.setTop f) cO cI n).pushCell _).setCell _ _ = _
    rw [ih]
    rfl
theorem mAt_topJ (u : State) (cO cI : ClassId) : ∀ n, (mAt u cO cI n).topJava? = u.topJava? := by
  intro n
  induction n with
  | zero => rfl
  | succ n ih => exact ih
section MS
variable {Q : Unit → Pre} {E : CtlPost} {e : Env} {d : Bool} {acts : List Action} {u : State} {f : JFrame}
theorem mm_cold {index c : Nat} {vm' : Vm} (hs : u.topJava?.isSome) (hg : (Jvm.resolveClass f.method.cls index).Gives e.toSetting u.vm (.ok c) vm') (hr : vm'.classReady f.method.cls index c) (hsz : vm'.classes.size ≤ u.vm.classes.size := by no_record) :
    wp (Op.multianewarray.sem index 2) Q E e d acts (u.setTop f) ↔ wp (Op.multianewarray.sem index 2) Q E e d acts ((u.setVm vm').setTop f) := by
  simp only [Op.multianewarray.sem, wp_bind']
  exact Jvm.W.resolveClassAt_transfer (s := u.setTop f) (State.method?_setTop f hs) hg hr
theorem mm_ready {index : Nat} {cO cI cc : ClassId} {kO kI : Class} {rest : List Value} (hs : u.topJava?.isSome) (hr : u.vm.classReady f.method.cls index cO) (hO : u.vm.classes[cO]? = some kO) (hOd : kO.kind = .array cI (.array .int)) (hk : u.vm.classes[cI]? = some kI) (hkd : kI.kind = .array cc .int) (hl : ¬ 24 > e.platform.arrayLengthLimit) (hh : ¬ 24 * 4 > e.platform.maxHeapBytes)
    (h1 : u.heap.size + 4 ≤ e.platform.maxCells) (h2 : u.slotsUsed + 75 ≤ e.platform.maxSlots) (hst : f.stack = .int 24 :: .int 3 :: rest) (hq : ∀ acts', Q () true acts' ((mAt u cO cI 3).setTop { f with stack := .ref u.heap.size :: rest })) :
    wp (Op.multianewarray.sem index 2) Q E e d acts (u.setTop f) := by
  simp only [Op.multianewarray.sem, wp_bind', Jvm.W.resolveClassAt_ready (State.method?_setTop f hs) hr, Jvm.W.popN]
  rw [if_neg (by decide)]
  refine ⟨f, State.topJava?_setTop' _ hs, [.int 3, .int 24], rest, rfl, hst, ?_⟩
  simp only [List.mapM_cons, List.mapM_nil, wp_bind', wp_pure', State.setTop_setTop]
  refine mm_out (u := u.setTop { f with stack := rest }) hO hOd hk hkd hl hh h1 h2 (fun acts' => ?_)
  show wp (Jvm.mark "op.multianewarray" >>= fun _ => Jvm.pushRef _) Q E e true acts' _
  simp only [wp_bind', Jvm.W.mark, Jvm.W.pushRef]
  refine ⟨{ f with stack := rest }, ?_, ?_⟩
  · rw [mAt_topJ]
    exact State.topJava?_setTop' _ hs
  · rw [mAt_top, State.setTop_setTop]
    exact hq _
end MS
