def rmZ (d : Nat) : Room := { frames := d, cells := 0, slots := 0, locals := 40 * d }
def AZ (ad : Nat → Nat) (sz : Nat) : Nat → Prop := fun q => (∃ k, k < lyt.length ∧ q = ad k) ∨ sz ≤ q
def WZw (ad : Nat → Nat) (D : va_G) (cT : Nat → ClassId) (w : Mem) (t : State) : Prop := va_P D clZ (wS ad cT w) t.heap ∧ va_D (fun _ => True) (wS ad cT w) ∧ KZ D cT t ∧ MOK w
def PcZ (ad : Nat → Nat) (D : va_G) (cT : Nat → ClassId) (w : Mem) (as : List AV) (sz : Nat) : Array Value → State → Prop := va_Pc (as.map (cV ad)) (fun U => U.heap.size = sz ∧ WZw ad D cT w U)
def QZ (ad : Nat → Nat) (D : va_G) (cT : Nat → ClassId) (A : Nat → Prop) (r : Res) : Array Value → State → Outcome → State → Prop :=
  if r.1 = 1 then va_Qi (fun x (_ : Unit) => x = i32 r.2.1.2 ∧ inI r.2.1.2) (fun _ t => WZw ad D cT r.2.2 t) A else if r.1 = 2 then va_Qd (fun x (_ : Unit) => x = dU r.2.1.2) (fun _ t => WZw ad D cT r.2.2 t) A else va_Qv (fun (_ : Unit) => True) (fun _ t => WZw ad D cT r.2.2 t) A
theorem KZ.moved {D : va_G} {cT : Nat → ClassId} {s U : State} (hW : s.WarmedH U.vm) (h : KZ D cT s) : KZ D cT U := ⟨va_K.moved hW.alike h.1, fun w hw => by
  have h2 := h.2 w hw
  simp only [nstW, List.mem_cons, List.not_mem_nil, or_false] at hw
  rcases hw with rfl | rfl
  · exact va_Nw.warmM hW h2
  · exact va_Nw.warmM hW h2⟩
theorem KZ.same {D : va_G} {cT : Nat → ClassId} {u U : State} (hv : u.vm = U.vm) (h : KZ D cT u) : KZ D cT U := ⟨va_K.moved (hv ▸ Vm.Alike.refl u.vm) h.1, fun w hw => by
  have h2 := h.2 w hw
  simp only [nstW, List.mem_cons, List.not_mem_nil, or_false] at hw
  rcases hw with rfl | rfl
  · exact va_Nw.same rfl hv h2
  · exact va_Nw.same rfl hv h2⟩
theorem wS_D {ad : Nat → Nat} {cT : Nat → ClassId} {w w' : Mem} {A : Nat → Prop} (h : va_D A (wS ad cT w)) : va_D A (wS ad cT w') := by
  have key : ∀ (u : Mem) (k : Nat) (q : Nat × va_E), (wS ad cT u)[k]? = some q → k < lyt.length ∧ q.1 = ad k := fun u k q hq => by
    have hk : k < lyt.length := by
      have := (List.getElem?_eq_some_iff.mp hq).1
      simpa [wS] using this
    rw [wS_get hk] at hq
    cases hq
    exact ⟨hk, rfl⟩
  refine ⟨fun i j x z hx hz e => ?_, fun k q hq => ?_⟩
  · obtain ⟨h1, h2⟩ := key w' i x hx
    obtain ⟨h3, h4⟩ := key w' j z hz
    exact h.1 i j _ _ (wS_get h1) (wS_get h3) (by rw [h2, h4] at e; exact e)
  · obtain ⟨h1, h2⟩ := key w' k q hq
    rw [h2]
    exact h.2 k _ (wS_get h1)
theorem pcZ_blind {ad : Nat → Nat} {D : va_G} {cT : Nat → ClassId} {w : Mem} {as : List AV} {sz : Nat} : FrameBlind (PcZ ad D cT w as sz) := fun a U g mk h => by
  obtain ⟨h1, h2, h3, h4, h5, h6⟩ := h
  exact ⟨h1, h2, h3, h4, KZ.same (u := U) (U := U.calling g mk a) rfl h5, h6⟩
theorem goodW {w : Cond} (h : w ∈ TBW) : (w.onTables && w.keeps) = true ∨ ∃ ty, w = .arrayClass ty := good_of_word (List.mem_filter.mp h).2
section ZC
variable {p : Program} {l : Launch} {e : Env} {R : Room} {s : State} {m : MethodId} {args : Array Value} {below : List Frame} {meth : Method} {c : Code} {Q : State → Prop}
variable {ad : Nat → Nat} {D : va_G} {cT : Nat → ClassId} {A : Nat → Prop} {y pc : Nat} {als st : List AV} {w : Mem} {cc : ByteArray}
/-- what a frame of method y knows of its place -/
def CXZ (p : Program) (s : State) (m : MethodId) (args : Array Value) (meth : Method) (c : Code) (Ts : List Cond) (cl : Nat) (cc : ByteArray) (nL : Nat) : Prop := p.tables.exec = Jvm.exec ∧ c.code = cc ∧ c.maxLocals = nL ∧ s.vm.findClass (clsN cl) = some m.cls ∧ (∀ q ∈ Ts, q.before args s = true) ∧ (∀ q ∈ TBW, q ∈ Ts)
theorem cats {rest : List AV} (h : rest.length ≤ 4) : ((rest.map (cV ad)).map fun v => v.category).sum ≤ 8 := by
  have key : ∀ (r : List AV), ((r.map (cV ad)).map fun v => v.category).sum ≤ 2 * r.length := by
    intro r
    induction r with
    | nil => simp
    | cons a r ih =>
      simp only [List.map_cons, List.sum_cons, List.length_cons]
      rcases lv_cat (cV ad a) with q | q <;> omega
  have := key rest
  omega
theorem preZ {as : List AV} {ls : Array Slot} {H : Heap} {locs : List Loc} (hK : KZ D cT s) (h : SZ ad D cT A y s.heap ls als st w H locs) : ∀ U : State, U.heap = H → s.WarmedH U.vm → PcZ ad D cT w as H.size (as.map (cV ad)).toArray U := fun U hU hW =>
  ⟨rfl, by rw [hU], by rw [hU]; exact h.2.2.2.2.1, h.2.2.2.2.2.1.weaken (fun _ _ _ _ => trivial), hK.moved hW, h.2.2.2.1⟩
theorem freeZ {ls : Array Slot} {H : Heap} {locs : List Loc} (hA : ∀ q, s.heap.size ≤ q → A q) (h : SZ ad D cT A y s.heap ls als st w H locs) : ∀ q, AZ ad H.size q → A q := fun q hq => by
  rcases hq with ⟨k, hk, rfl⟩ | hq
  · exact h.2.2.2.2.2.1.2 k _ (wS_get hk)
  · exact hA q (Nat.le_trans h.2.2.2.2.2.2.1 hq)
theorem goesI {rest : List AV} {j : Nat} {Ar : Array Value} {r : Res} {ls : Array Slot} {H : Heap} {locs : List Loc} {st0 : List Value} (hA : ∀ q, s.heap.size ≤ q → A q) (h : SZ ad D cT A y s.heap ls als rest w H locs) (hr1 : r.1 = 1)
    (hr : va_Run p l e R s m args below meth c H locs 0 0 0 0 (F0 m pc ls st0) (rest.map (cV ad)) (QZ ad D cT (AZ ad H.size) r Ar) (AZ ad H.size)) (kk : Wz p l e R s m args below meth c Q ad D cT A y (pc + 3) als (aI r.2.1.2 :: rest) r.2.2) : W p l e R s m args below meth c H locs 0 0 Q (F0 m pc ls st0) := by
  unfold QZ at hr
  rw [if_pos hr1] at hr
  refine va_calli hr h.2.2.2.2.2.2 (fun q _ hq => freeZ hA h q hq) (freeZ hA h) (fun x u t H1 locs1 ht hvm hp hB hz hk hS => ?_)
  obtain ⟨hP, hD, hK1, hm⟩ := hB
  rw [ht] at hP
  refine kk.use (SZ.push ⟨h.1, h.2.1, h.2.2.1, hm, hP, wS_D h.2.2.2.2.2.1, hS⟩ (okV_I hp.2)) ?_
  rw [List.map_cons, cV_I, hp.1]
theorem goesV {rest : List AV} {j : Nat} {Ar : Array Value} {r : Res} {ls : Array Slot} {H : Heap} {locs : List Loc} {st0 : List Value} (hA : ∀ q, s.heap.size ≤ q → A q) (h : SZ ad D cT A y s.heap ls als rest w H locs) (hr1 : r.1 = 0)
    (hr : va_Run p l e R s m args below meth c H locs 0 0 0 0 (F0 m pc ls st0) (rest.map (cV ad)) (QZ ad D cT (AZ ad H.size) r Ar) (AZ ad H.size)) (kk : Wz p l e R s m args below meth c Q ad D cT A y (pc + 3) als rest r.2.2) : W p l e R s m args below meth c H locs 0 0 Q (F0 m pc ls st0) := by
  unfold QZ at hr
  rw [if_neg (by omega), if_neg (by omega)] at hr
  refine va_callv hr h.2.2.2.2.2.2 (fun q _ hq => freeZ hA h q hq) (freeZ hA h) (fun u t H1 locs1 ht hvm hp hB hz hk hS => ?_)
  obtain ⟨hP, hD, hK1, hm⟩ := hB
  rw [ht] at hP
  exact kk.use ⟨h.1, h.2.1, h.2.2.1, hm, hP, wS_D h.2.2.2.2.2.1, hS⟩ rfl
/-- a call of a method of an object: what the machine runs -/
theorem runVZ {Ts : List Cond} {cl nL d j idx rr : Nat} {as' rest : List AV} {r : Res} {ls : Array Slot} {H : Heap} {locs : List Loc} (C0 : CXZ p s m args meth c Ts cl cc nL) (hK : KZ D cT s) (hR : d + 1 ≤ R.frames ∧ 40 * (d + 1) ≤ R.locals) (hmj : mL j ≤ 20)
    (hF : FM j) (hs : mSt j = 0) (hln : Cond.methodLink (clsN cl) idx (mN j) ∈ TBW) (hn : (aR rr :: as').length = mNa j) (hrc : obC rr = mC j) (hmc : mC j < 900) (hcl : clZ[mC j]? = some (clsN (mC j), TZ (mC j), nfZ (mC j))) (hrl : rest.length ≤ 4) (hd : decode cc pc = .ok (.invokevirtual idx, 3))
    (hM : Met l (mN j) (wsZ j) (rmZ d) (PcZ ad D cT w (aR rr :: as') H.size) (QZ ad D cT (AZ ad H.size) r) 0 0 (AZ ad H.size)) (h : SZ ad D cT A y s.heap ls als st w H locs) (hls : ls.size = nL) (hst : st = (aR rr :: as').reverse ++ rest) :
    ∃ Ar, va_Run p l e R s m args below meth c H locs 0 0 0 0 (F0 m pc ls (st.map (cV ad))) (rest.map (cV ad)) (QZ ad D cT (AZ ad H.size) r Ar) (AZ ad H.size) := by
  obtain ⟨hx, hb, hml, hown, hts, hT⟩ := C0
  obtain ⟨f1, f2, f3, f4, f5, f6, f7⟩ := hF
  obtain ⟨g1, g2⟩ := f6 hs
  rw [if_pos hs] at f5
  obtain ⟨hk, hk2⟩ := obC_k hrc (by omega)
  have hg := (wS_get (ad := ad) (cT := cT) (m := w) (kd_lt hk (by decide))).trans (by rw [cE_0 hk])
  have hw1 : GoodIn Ts (wsV (clsN cl) idx (clsN (mC j)) (mN j) (wsZ j)) := fun q hq => by
    unfold wsV at hq
    rcases List.mem_append.mp hq with z | z
    · have : q ∈ TBW := by
        simp only [List.mem_cons, List.not_mem_nil, or_false] at z
        rcases z with rfl | rfl | rfl | rfl
        · exact hln
        · exact g1
        · exact g2
        · rw [← f4]; exact f2
      exact ⟨hT q this, goodW this⟩
    · exact goodZ j f1 hT q z
  have hlen : (as'.map (cV ad)).length = mNa j - 1 := by
    rw [List.length_map]
    simp only [List.length_cons] at hn
    omega
  refine ⟨_, va_runV (As := as'.map (cV ad)) (b := ad rr) ⟨hx, hb, hml, hown, hts⟩ hM (cwV (mNa j - 1) hts hw1 rfl rfl rfl ⟨f4, f5.1, f5.2.1, f5.2.2⟩ ⟨hR.1, by show 8 + (mL j + 11) + 40 * d ≤ R.locals; omega⟩) ⟨pcZ_blind, va_recv hK.1 h.2.2.2.2.1 (ci := mC j) (q0 := rr) hcl (by rw [hg, hk2]), ?_⟩ rfl hlen hls ?_ (lv_room (cats hrl)) hd ⟨Nat.zero_le _, Nat.zero_le _⟩⟩
  · intro U hU hW
    have := preZ (as := aR rr :: as') hK h U hU hW
    rw [List.map_cons, cV_R] at this
    exact this
  · show st.map (cV ad) = _
    rw [hst, List.map_append, List.map_reverse, List.map_cons, cV_R, List.reverse_cons, List.append_assoc]
    rfl
/-- a call of a static method -/
theorem runSZ {Ts : List Cond} {cl nL d j idx : Nat} {as rest : List AV} {r : Res} {ls : Array Slot} {H : Heap} {locs : List Loc} (C0 : CXZ p s m args meth c Ts cl cc nL) (hK : KZ D cT s) (hR : d + 1 ≤ R.frames ∧ 40 * (d + 1) ≤ R.locals) (hmj : mL j ≤ 20)
    (hF : FM j) (hs : mSt j = 1) (hln : FL nstW cl idx j) (hn : as.length = mNa j) (hrl : rest.length ≤ 4) (hd : decode cc pc = .ok (.invokestatic idx, 3))
    (hM : Met l (mN j) (wsZ j) (rmZ d) (PcZ ad D cT w as H.size) (QZ ad D cT (AZ ad H.size) r) 0 0 (AZ ad H.size)) (h : SZ ad D cT A y s.heap ls als st w H locs) (hls : ls.size = nL) (hst : st = as.reverse ++ rest) :
    ∃ Ar, va_Run p l e R s m args below meth c H locs 0 0 0 0 (F0 m pc ls (st.map (cV ad))) (rest.map (cV ad)) (QZ ad D cT (AZ ad H.size) r Ar) (AZ ad H.size) := by
  obtain ⟨hx, hb, hml, hown, hts, hT⟩ := C0
  obtain ⟨f1, f2, f3, f4, f5, f6, f7⟩ := hF
  have g1 := f7 hs
  rw [if_neg (by omega)] at f5
  have hst2 : st.map (cV ad) = (as.map (cV ad)).reverse ++ rest.map (cV ad) := by rw [hst, List.map_append, List.map_reverse]
  have hlen : (as.map (cV ad)).length = mNa j := by rw [List.length_map]; exact hn
  have hpre : PreS s H (PcZ ad D cT w as H.size) (as.map (cV ad)) := ⟨pcZ_blind, preZ hK h⟩
  have hRl : 8 + (mL j + 11) + (rmZ d).locals ≤ R.locals := by show 8 + (mL j + 11) + 40 * d ≤ R.locals; omega
  rcases hln with hln | ⟨-, hln⟩
  · have hw1 : GoodIn Ts (va_wsS (clsN cl) idx (mN j) (wsZ j)) := fun q hq => by
      unfold va_wsS at hq
      rcases List.mem_append.mp hq with z | z
      · have : q ∈ TBW := by
          simp only [List.mem_cons, List.not_mem_nil, or_false] at z
          rcases z with rfl | rfl | rfl
          · exact hln
          · exact g1
          · exact f2
        exact ⟨hT q this, goodW this⟩
      · exact goodZ j f1 hT q z
    exact ⟨_, va_runS (As := as.map (cV ad)) ⟨hx, hb, hml, hown, hts⟩ hM (va_cwS (mNa j) hts hw1 rfl rfl rfl f5 ⟨hR.1, hRl⟩) hpre rfl hlen hls hst2 (lv_room (cats hrl)) hd ⟨Nat.zero_le _, Nat.zero_le _⟩⟩
  · exact ⟨_, va_runSN (As := as.map (cV ad)) ⟨hx, hb, hml, hown, hts⟩ hM ⟨va_cnB (mNa j) hts (goodZ j f1 hT) rfl rfl rfl (hK.2 _ hln) (hts _ (hT _ f2)) f5 ⟨hR.1, hRl⟩, hts _ (hT _ g1), trivial⟩ hpre rfl hlen hls hst2 (lv_room (cats hrl)) hd ⟨Nat.zero_le _, Nat.zero_le _⟩⟩
end ZC
