/-! the law's methods that catch: their contracts (printed by wrap.py) -/
def rmW : Room := { frames := 60, cells := 1, slots := 6, locals := 2000 }
/-- pairs of classes of exceptions, the first none of the second -/
def ncs : List (Nat × Nat) := [(2, 1), (3, 1), (3, 2), (4, 1), (4, 2), (4, 3), (5, 1), (5, 2), (5, 3), (5, 4), (6, 1), (2, 6)]
def NCK (U : State) : Prop := ∀ q ∈ ncs, ∀ a b, U.vm.findClass (exN q.1) = some a → U.vm.findClass (exN q.2) = some b → U.vm.assignable a b = false
theorem NCK.moved {u U : State} (hA : u.vm.Alike U.vm) (h : NCK u) : NCK U := fun q hq a b h1 h2 => by
  rw [hA.findClass] at h1 h2
  rw [hA.assignable]
  exact h q hq a b h1 h2
def QW (ad : Nat → Nat) (D : va_G) (cT : Nat → ClassId) (A : Nat → Prop) (qo : Nat) (cL : ClassId) (k : Int) (w : Mem) (ov : Value) : Array Value → State → Outcome → State → Prop := va_Qi (fun x (_ : Unit) => x = i32 k) (fun _ t => WZw ad D cT w t ∧ t.heap[qo]? = some (arrV cL 1 (fun _ => ov))) A
def PcW (ad : Nat → Nat) (D : va_G) (cT : Nat → ClassId) (w : Mem) (as : List AV) (qo : Nat) (cL : ClassId) (ty : FieldType) (ov : Value) (sz : Nat) : Array Value → State → Prop := va_Pc (as.map (cV ad) ++ [.ref qo]) (fun U => U.heap.size = sz ∧ WZw ad D cT w U ∧ ThrK U ∧ NCK U ∧ U.heap[qo]? = some (arrV cL 1 (fun _ => ov)) ∧ ArrOfT U cL ty)
theorem thrK_calling {U : State} {g : JFrame} {mk : MethodId} {a : Array Value} (h : ThrK U) : ThrK (U.calling g mk a) := ThrK.moved (u := U) (U := U.calling g mk a) (State.WarmedH.refl U) (fun _ _ h _ => h) h
theorem pcT_blind {ad : Nat → Nat} {D : va_G} {cT : Nat → ClassId} {w : Mem} {as : List AV} {sz : Nat} : FrameBlind (PcT ad D cT w as sz) := fun a U g mk h => ⟨pcZ_blind a U g mk h.1, thrK_calling h.2⟩
theorem pcW_blind {ad : Nat → Nat} {D : va_G} {cT : Nat → ClassId} {w : Mem} {as : List AV} {qo : Nat} {cL : ClassId} {ty : FieldType} {ov : Value} {sz : Nat} : FrameBlind (PcW ad D cT w as qo cL ty ov sz) := fun a U g mk h => by
  obtain ⟨h1, h2, ⟨h3, h4, h5, h6⟩, h7, h8, h9, h10⟩ := h
  exact ⟨h1, h2, ⟨h3, h4, KZ.same (u := U) (U := U.calling g mk a) rfl h5, h6⟩, thrK_calling h7, NCK.moved (u := U) (U := U.calling g mk a) (Vm.Alike.refl U.vm) h8, h9, arrOfT_moved (u := U) (E := U.calling g mk a) (Vm.Alike.refl U.vm) h10⟩
section WR
variable {p : Program} {l : Launch} {e : Env} {R : Room} {s : State} {m : MethodId} {args : Array Value} {below : List Frame} {meth : Method} {c : Code} {Q : State → Prop}
variable {ad : Nat → Nat} {D : va_G} {cT : Nat → ClassId} {A : Nat → Prop} {pc cells slots : Nat} {w w' : Mem} {cc : ByteArray} {Ts : List Cond} {nL d j idx rr : Nat} {as' : List AV} {rest : List Value} {ls : Array Slot} {H : Heap} {locs : List Loc}
theorem callX {rm : Room} {mc ms : Nat} (C0 : CXZ p s m args meth c Ts 14 cc nL) (hK : KZ D cT s) (hrc : rm.cells = mc ∧ rm.slots = ms ∧ rm.frames + 1 ≤ R.frames ∧ 8 + (mL j + 11) + rm.locals ≤ R.locals)
    (hF : FM j) (hs : mSt j = 0) (hln : Cond.methodLink (clsN 14) idx (mN j) ∈ TBW) (hn : (aR rr :: as').length = mNa j) (hrx : obC rr = mC j) (hmc : mC j < 13) (hP : va_P D clZ (wS ad cT w) H) :
    CallW R s args (clsN 14) (clsN (mC j)) idx (mN j) (mB j) (mL j) (retT (mRt j)) (wsZ j) rm mc ms (mNa j - 1) ∧ (∃ cellB : Cell, H[ad rr]? = some cellB ∧ cellB.vm.isStatics = false ∧ s.vm.findClass (clsN (mC j)) = some cellB.cls) ∧ (as'.map (cV ad)).length = mNa j - 1 := by
  obtain ⟨hx, hb, hml, hown, hts, hT⟩ := C0
  obtain ⟨f1, f2, f3, f4, f5, f6, f7⟩ := hF
  obtain ⟨g1, g2⟩ := f6 hs
  rw [if_pos hs] at f5
  obtain ⟨hk, hk2⟩ := obC_k hrx (by omega)
  have hg := (wS_get (ad := ad) (cT := cT) (m := w) (kd_lt hk (by decide))).trans (by rw [cE_0 hk])
  have hw1 : GoodIn Ts (wsV (clsN 14) idx (clsN (mC j)) (mN j) (wsZ j)) := fun q hq => by
    unfold wsV at hq
    rcases List.mem_append.mp hq with z | z
    · have : q ∈ TBW := by
        simp only [List.mem_cons, List.not_mem_nil, or_false] at z
        rcases z with rfl | rfl | rfl | rfl
        · exact hln
        · exact g1
        · exact g2
        · rw [← f4]; exact f2
      exact ⟨hT q this, goodW this⟩
    · exact goodZ j f1 hT q z
  refine ⟨cwV (mNa j - 1) hts hw1 rfl hrc.1 hrc.2.1 ⟨f4, f5.1, f5.2.1, f5.2.2⟩ hrc.2.2, va_recv hK.1 hP (ci := mC j) (q0 := rr) (clzAll _ hmc) (by rw [hg, hk2]), ?_⟩
  rw [List.length_map]
  simp only [List.length_cons] at hn
  omega
/-- a call of the class's or the reference's method that comes back -/
theorem runX {r : Res} (C0 : CXZ p s m args meth c Ts 14 cc nL) (hK : KZ D cT s) (hR : d + 1 ≤ R.frames ∧ 40 * (d + 1) ≤ R.locals) (hmj : mL j ≤ 20)
    (hF : FM j) (hs : mSt j = 0) (hln : Cond.methodLink (clsN 14) idx (mN j) ∈ TBW) (hn : (aR rr :: as').length = mNa j) (hrx : obC rr = mC j) (hmc : mC j < 13) (hrl : (rest.map fun v => v.category).sum ≤ 8) (hd : decode cc pc = .ok (.invokevirtual idx, 3))
    (hM : Met l (mN j) (wsZ j) (rmZ d) (PcZ ad D cT w (aR rr :: as') H.size) (QZ ad D cT (AZ ad H.size) r) 0 0 (AZ ad H.size)) (hP : va_P D clZ (wS ad cT w) H) (hD : va_D (fun _ => True) (wS ad cT w)) (hm : MOK w) (hls : ls.size = nL) (hc : cells ≤ R.cells ∧ slots ≤ R.slots) :
    ∃ Ar, va_Run p l e R s m args below meth c H locs cells slots 0 0 (F0 m pc ls ((as'.map (cV ad)).reverse ++ .ref (ad rr) :: rest)) rest (QZ ad D cT (AZ ad H.size) r Ar) (AZ ad H.size) := by
  obtain ⟨cw, hrec, hlen⟩ := callX (w := w) (H := H) C0 hK ⟨rfl, rfl, hR.1, show 8 + (mL j + 11) + 40 * d ≤ R.locals by omega⟩ hF hs hln hn hrx hmc hP (rm := rmZ d)
  obtain ⟨hx, hb, hml, hown, hts, hT⟩ := C0
  refine ⟨_, va_runV (As := as'.map (cV ad)) (b := ad rr) ⟨hx, hb, hml, hown, hts⟩ hM cw ⟨pcZ_blind, hrec, fun U hU hW => ?_⟩ rfl hlen hls rfl (by show 2 * 0 + _ ≤ 8; omega) hd ⟨by omega, by omega⟩⟩
  refine ⟨?_, by rw [hU], by rw [hU]; exact hP, hD.weaken (fun _ _ _ _ => trivial), hK.moved hW, hm⟩
  rw [List.map_cons, cV_R]
/-- a call of the class's method that throws, and is caught -/
theorem thrX {n hpc : Nat} {pre rest' : List ExceptionTableEntry} {x : ExceptionTableEntry} (C0 : CXZ p s m args meth c Ts 14 cc nL) (hK : KZ D cT s) (hR : d + 10 ≤ R.frames ∧ 40 * (d + 1) + 339 ≤ R.locals) (hmj : mL j ≤ 20)
    (hF : FM j) (hs : mSt j = 0) (hln : Cond.methodLink (clsN 14) idx (mN j) ∈ TBW) (hn : (aR rr :: as').length = mNa j) (hrx : obC rr = mC j) (hmc : mC j < 13) (hrl : (rest.map fun v => v.category).sum ≤ 8) (hd : decode cc pc = .ok (.invokevirtual idx, 3))
    (hM : MetFree l (mN j) (headSpec (wsZ j) (rmT (d + 1))) (PcT ad D cT w (aR rr :: as') H.size) (fun _ _ _ _ _ => True) (QT ad D cT (AZ ad H.size) n w')) (hP : va_P D clZ (wS ad cT w) H) (hD : va_D (fun _ => True) (wS ad cT w)) (hm : MOK w) (hls : ls.size = nL) (hc : cells + 1 ≤ R.cells ∧ slots + 6 ≤ R.slots)
    (hT0 : ThrK s) (hS : va_S A s.heap H locs) (hA : ∀ q, s.heap.size ≤ q → A q) (hAd : ∀ k, k < lyt.length → A (ad k)) (hst : ∀ q, A q → ∀ cell, s.heap[q]? = some cell → cell.vm.isStatics = false)
    (hsplit : c.exceptionTable.toList = pre ++ x :: rest') (hcl : ∀ cls, s.vm.findClass (exN n) = some cls → ClZ s args (clsN 14) pc cls true x ∧ ∀ y ∈ pre, ClZ s args (clsN 14) pc cls false y) (hhp : x.handlerPc = hpc)
    (kk : ∀ (x0 : Nat) (H1 : Heap) (locs1 : List Loc), va_P D clZ (wS ad cT w') H1 → va_D (fun _ => True) (wS ad cT w') → MOK w' → va_S A s.heap H1 locs1 → H.size ≤ H1.size → (∀ q, q < H.size → ¬ AZ ad H.size q → H1[q]? = H[q]?) → W p l e R s m args below meth c H1 locs1 (cells + 1) (slots + 6) Q (F0 m hpc ls [.ref x0])) :
    W p l e R s m args below meth c H locs cells slots Q (F0 m pc ls ((as'.map (cV ad)).reverse ++ .ref (ad rr) :: rest)) := by
  subst hhp
  obtain ⟨cw, hrec, hlen⟩ := callX (w := w) (H := H) C0 hK ⟨rfl, rfl, show d + 1 + 8 + 1 ≤ R.frames by omega, show 8 + (mL j + 11) + (40 * (d + 1) + 300) ≤ R.locals by omega⟩ hF hs hln hn hrx hmc hP (rm := rmT (d + 1))
  obtain ⟨hx, hb, hml, hown, hts, hT⟩ := C0
  have hkeep : ∀ (a : Nat) (cell : Cell), s.heap[a]? = some cell → cell.vm.isStatics = true → H[a]? = some cell := fun a cell h1 h2 => by
    rw [hS.2.1 a (Array.getElem?_eq_some_iff.mp h1).1 (fun z => by rw [hst a z cell h1] at h2; cases h2)]
    exact h1
  refine W_throws (free := AZ ad H.size) (As := as'.map (cV ad)) (b := ad rr) ⟨hx, hb, hml, hown, hts⟩ hM cw ⟨pcT_blind, hrec, fun U hU hW => ⟨⟨?_, by rw [hU], by rw [hU]; exact hP, hD.weaken (fun _ _ _ _ => trivial), hK.moved hW, hm⟩, hT0.moved hW (fun a cell h1 h2 => by rw [hU]; exact hkeep a cell h1 h2)⟩⟩ rfl hlen hls rfl (by show 2 * 0 + _ ≤ 8; omega) hd hc ?_ ?_
  · rw [List.map_cons, cV_R]
  · rintro a st oc t ⟨x1, h1, h2, ⟨L, h3, h4⟩, -⟩
    exact ⟨x1, h1, h2, L, h3, h4⟩
  · intro x1 st t T' L hq hst0 hWst hT' hL X'
    obtain ⟨x2, hx2, hW2, -, ⟨ce, hce, hvm, hfc⟩, hWZ, hFF⟩ := hq
    cases hx2
    have hfc' : s.vm.findClass (exN n) = some ce.cls := by rw [← hWst.alike.findClass]; exact hfc
    obtain ⟨hx1, hpre⟩ := hcl _ hfc'
    obtain ⟨vm', X2, hgo⟩ := stand_caught X' x1 (g := { (F0 m pc ls ((as'.map (cV ad)).reverse ++ .ref (ad rr) :: rest) : JFrame) with stack := rest }) rfl hown hsplit (by rw [hT']; exact hce) (by rw [hvm]; rfl) hfc' hx1 hpre
    have f1 : H.size ≤ T'.heap.size := by rw [hT', ← hst0]; exact hFF.1
    have f2 : ∀ q, q < H.size → ¬ AZ ad H.size q → T'.heap[q]? = H[q]? := fun q h1 h2 => by
      rw [hT', ← hst0]
      exact hFF.2 q (by rw [hst0]; exact h1) h2
    have hS' : va_S A s.heap T'.heap (locs ++ L) := ⟨Nat.le_trans hS.1 f1, fun q h1 h2 => by
      rw [f2 q (Nat.lt_of_lt_of_le h1 hS.1) (fun z => by
        rcases z with ⟨k, hk, rfl⟩ | z
        · exact h2 (hAd k hk)
        · have := hS.1; omega)]
      exact hS.2.1 q h1 h2, fun q hq => by
      rcases List.mem_append.mp hq with z | z
      · exact hS.2.2 q z
      · rcases hL q z with ⟨k, hk, e⟩ | z2
        · rw [e]; exact hAd k hk
        · exact hA _ (Nat.le_trans hS.1 z2)⟩
    obtain ⟨r, r1, r2⟩ := kk x1 T'.heap (locs ++ L) (by rw [hT']; exact hWZ.1) (hWZ.2.1.weaken (fun _ _ _ _ => trivial)) hWZ.2.2.2 hS' f1 f2 (T'.setVm vm') rfl X2
    exact ⟨r, hgo r r1, r2⟩
/-- the end: a number, back -/
theorem endX {qo : Nat} {cL : ClassId} {k : Int} {ov : Value} (hx : p.tables.exec = Jvm.exec) (hb : c.code = cc) (hr : meth.sig.returnType = some .int) (hlocks : meth.locks = false) (hK : KZ D cT s) (hc : cells ≤ 1 ∧ slots ≤ 6) (hP : va_P D clZ (wS ad cT w) H) (hD : va_D (fun _ => True) (wS ad cT w)) (hm : MOK w) (ho : H[qo]? = some (arrV cL 1 (fun _ => ov))) (hS : va_S A s.heap H locs)
    (d1 : decode cc pc = .ok (.iconst k, 1)) (d2 : decode cc (pc + 1) = .ok (.ireturn, 1)) :
    W p l e R s m args below meth c H locs cells slots (MQ below (QW ad D cT A qo cL k w ov) args s 1 6 A) (F0 m pc ls []) := by
  refine W.widen hc.1 hc.2 ?_
  refine lv_iconst hx hb d1 rfl ?_
  refine W.iret hx hb hr (fun t ht hW => ?_) hS.2.2 d2 hlocks
  exact ⟨⟨i32 k, (), rfl, rfl, ⟨by rw [ht]; exact hP, hD.weaken (fun _ _ _ _ => trivial), hK.moved hW, hm⟩, by rw [ht]; exact ho⟩, hS.F ht⟩
end WR
/-- what comes of a call, as the law's method tells it: 0 and the answer laid down, or the number of the clause -/
def HR (j : Nat) (as : List AV) (codes : List (Nat × Int)) (w w' : Mem) (k : Int) (ov ov' : Value) : Prop := (∃ v, Zc 20 j as w = rI v w' ∧ k = 0 ∧ ov' = .long (i32 v).toInt64) ∨ ∃ q ∈ codes, Zc 20 j as w = rT q.1 w' ∧ k = q.2 ∧ ov' = ov
def HRd (j : Nat) (as : List AV) (codes : List (Nat × Int)) (w w' : Mem) (k : Int) (ov ov' : Value) : Prop := (∃ v, Zc 20 j as w = rD v w' ∧ k = 0 ∧ ov' = .double (dU v)) ∨ ∃ q ∈ codes, Zc 20 j as w = rT q.1 w' ∧ k = q.2 ∧ ov' = ov
theorem arrV_set {cL : ClassId} {a b : Value} : (arrV cL 1 (fun _ => a)).setSlot 0 b = arrV cL 1 (fun _ => b) := by
  unfold arrV Cell.setSlot
  congr 1
theorem cl_of {s : State} {args : Array Value} {pc n : Nat} {ce : ClassId} {x : ExceptionTableEntry} (hx : covers x pc = true) (h0 : x.catchType ≠ 0) {nm : String} (hl : (Cond.classLink (clsN 14) x.catchType nm).before args s = true) (b : Bool) (h : ∀ cT, s.vm.findClass nm = some cT → s.vm.assignable ce cT = b) (hf : ∃ cT, s.vm.findClass nm = some cT) : ClZ s args (clsN 14) pc ce b x := by
  obtain ⟨cT, hcT⟩ := hf
  exact ⟨hx, h0, nm, cT, hl, hcT, h cT hcT⟩
theorem cV_L {ad : Nat → Nat} {x : Int64} : cV ad (aL x.toInt) = .long x := by show Value.long (Int64.ofInt x.toInt) = _; rw [Int64.ofInt_toInt]
theorem fc_of {args : Array Value} {s : State} {nm : String} (h : (Cond.initialized nm).before args s = true) : ∃ cT, s.vm.findClass nm = some cT := by
  simp only [Cond.before, Cond.holds, Cond.value] at h
  cases hc : s.vm.findClass nm with
  | none => simp [hc] at h
  | some c => exact ⟨c, rfl⟩
theorem as_of {args : Array Value} {s : State} {nm : String} {a b : ClassId} (h : (Cond.castable nm nm).before args s = true) (h1 : s.vm.findClass nm = some a) (h2 : s.vm.findClass nm = some b) : s.vm.assignable a b = true := by
  obtain ⟨c3, cT, hc3, hcT, hasg⟩ := Cond.castable_spec h
  cases h1.symm.trans hc3
  cases h2.symm.trans hcT
  exact hasg
set_option maxRecDepth 20000 in
theorem cw_13 : Cond.classLink (clsN 14) 13 (exN 1) ∈ TBW := tb3 12 rfl rfl
set_option maxRecDepth 20000 in
theorem cw_15 : Cond.classLink (clsN 14) 15 (exN 3) ∈ TBW := tb3 13 rfl rfl
set_option maxRecDepth 20000 in
theorem cw_21 : Cond.classLink (clsN 14) 21 (exN 2) ∈ TBW := tb3 111 rfl rfl
set_option maxRecDepth 20000 in
theorem cw_23 : Cond.classLink (clsN 14) 23 (exN 4) ∈ TBW := tb3 112 rfl rfl
set_option maxRecDepth 20000 in
theorem cw_25 : Cond.classLink (clsN 14) 25 (exN 5) ∈ TBW := tb3 113 rfl rfl
set_option maxRecDepth 20000 in
theorem cw_31 : Cond.classLink (clsN 14) 31 (exN 6) ∈ TBW := tb5 67 rfl rfl
