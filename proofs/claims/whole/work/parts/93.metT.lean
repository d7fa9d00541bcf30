/-! a method of the class that throws: its contract -/
theorem decode_lt {code : ByteArray} {pc : Nat} {x : Instr × Nat} (h : decode code pc = .ok x) : pc < code.size := by
  rcases Nat.lt_or_ge pc code.size with q | q
  · exact q
  · exfalso
    obtain ⟨f, e⟩ : ∃ f, Decoder.instr pc = (Reader.u1 >>= f) := ⟨_, rfl⟩
    unfold decode at h
    rw [e] at h
    have hq : ¬ pc < code.size := by omega
    have e0 : (Reader.u1 : Reader DecodeError Nat) code pc = .error (HasTruncated.truncated pc) := by
      unfold Reader.u1
      show (dite (pc < code.size) _ _ : Reader DecodeError Nat) code pc = _
      rw [dif_neg hq]
      rfl
    have e2 : (Reader.u1 >>= f).runAt code pc = .error (HasTruncated.truncated pc) := by
      show Except.bind ((Reader.u1 : Reader DecodeError Nat) code pc) (fun v => f v.1 code v.2) = _
      rw [e0]
      rfl
    rw [e2] at h
    cases h
def siteB (y pc : Nat) : Bool := match decode (mB y) pc with
  | .ok (.new idx, len) => match pxl 1 idx with
    | some n => (len == 3 && (decide (1 ≤ n) && (decide (n ≤ 6) && idx == exC n))) && (match decode (mB y) (pc + 3), decode (mB y) (pc + 4), decode (mB y) (pc + 6), decode (mB y) (pc + 9) with
      | .ok (.dup, 1), .ok (.ldc ix, 2), .ok (.invokespecial c, 3), .ok (.athrow, 1) => c == exM n && (strZ.lookup ix).isSome
      | _, _, _, _ => false)
    | none => true
  | _ => true
theorem sites_all : ((List.range mtt.length).all (fun y => !(mC y == 1) || (List.range (mB y).size).all (siteB y))) = true := by decide +kernel
/-- where an exception is made: made, doubled, given its message, thrown -/
theorem site_of {y pc idx len n : Nat} (hy : y < mtt.length) (hc : mC y = 1) (hd : decode (mB y) pc = .ok (.new idx, len)) (hp : pxl (mC y) idx = some n) :
    len = 3 ∧ 1 ≤ n ∧ n ≤ 6 ∧ idx = exC n ∧ decode (mB y) (pc + 3) = .ok (.dup, 1) ∧ decode (mB y) (pc + 6) = .ok (.invokespecial (exM n), 3) ∧ decode (mB y) (pc + 9) = .ok (.athrow, 1) ∧ ∃ ix tx, decode (mB y) (pc + 4) = .ok (.ldc ix, 2) ∧ (ix, tx) ∈ strZ := by
  have h1 := List.all_eq_true.mp sites_all y (List.mem_range.mpr hy)
  rw [show (mC y == 1) = true by rw [hc]; rfl] at h1
  have h2 := List.all_eq_true.mp (show ((List.range (mB y).size).all (siteB y)) = true by simpa using h1) pc (List.mem_range.mpr (decode_lt hd))
  rw [hc] at hp
  unfold siteB at h2
  rw [hd] at h2
  dsimp only at h2
  rw [hp] at h2
  simp only [Bool.and_eq_true, beq_iff_eq, decide_eq_true_eq] at h2
  obtain ⟨⟨a1, a2, a3, a4⟩, h3⟩ := h2
  split at h3
  next ix c e1 e2 e3 e4 =>
    simp only [Bool.and_eq_true, beq_iff_eq] at h3
    obtain ⟨b1, b2⟩ := h3
    subst b1
    obtain ⟨tx, ht⟩ := Option.isSome_iff_exists.mp b2
    exact ⟨a1, a2, a3, a4, e1, e3, e4, ix, tx, e2, lookup_mem ht⟩
  next => cases h3
def rmT (d : Nat) : Room := { frames := d + 8, cells := 1, slots := 6, locals := 40 * d + 300 }
/-- it threw exception n, the cells are w -/
def QT (ad : Nat → Nat) (D : va_G) (cT : Nat → ClassId) (A : Nat → Prop) (n : Nat) (w : Mem) : Array Value → State → Outcome → State → Prop := fun _ st oc t => ∃ x, oc = .threw x ∧ st.WarmedH t.vm ∧ (∃ L, st.sameButNew ({ t with vm := st.vm } : State) L 1 6 ∧ ∀ q ∈ L, A q.base) ∧ (∃ ce, t.heap[x]? = some ce ∧ ce.vm = .none ∧ st.vm.findClass (exN n) = some ce.cls) ∧ WZw ad D cT w t ∧ va_F A st t
def PcT (ad : Nat → Nat) (D : va_G) (cT : Nat → ClassId) (w : Mem) (as : List AV) (sz : Nat) : Array Value → State → Prop := fun a U => PcZ ad D cT w as sz a U ∧ ThrK U
section ZT
variable {p : Program} {l : Launch} {e : Env} {R : Room} {s : State} {m : MethodId} {args : Array Value} {below : List Frame} {meth : Method} {c : Code}
variable {ad : Nat → Nat} {D : va_G} {cT : Nat → ClassId} {y pc d : Nat} {als st : List AV} {w : Mem}
def MQT (below : List Frame) (Qc : Array Value → State → Outcome → State → Prop) (a : Array Value) (s : State) : State → Prop := fun t => ∃ o, t.status = .running ∧ Ended t below o ∧ Qc a s o t
theorem z_throw {n len idx : Nat} (C0 : CXZ p s m args meth c (wsZ y) (mC y) (mB y) (mL y)) (hlocks : meth.locks = false) (hy : y < mtt.length) (hc : mC y = 1) (hK : KZ D cT s) (htr : p.tables.exec = Jvm.exec → l.stackTraces = false) (hne : c.exceptionTable.isEmpty = true) (hT : ThrK s) (hR : 8 ≤ R.frames ∧ 300 ≤ R.locals ∧ 1 ≤ R.cells ∧ 6 ≤ R.slots)
    (hst : ∀ q, AZ ad s.heap.size q → ∀ cell, s.heap[q]? = some cell → cell.vm.isStatics = false) (hd : decode (mB y) pc = .ok (.new idx, len)) (hp : pxl (mC y) idx = some n) (hl4 : st.length ≤ 4) :
    Wz p l e R s m args below meth c (MQT below (QT ad D cT (AZ ad s.heap.size) n w) args s) ad D cT (AZ ad s.heap.size) y pc als st w := by
  obtain ⟨rfl, n1, n6, rfl, d3, d6, d9, ix, tx, d4, hstr⟩ := site_of hy hc hd hp
  obtain ⟨hx, hb, hml, hown, hts, hTB⟩ := C0
  rw [hc] at hown
  have hown : s.vm.findClass "LowForge" = some m.cls := hown
  obtain ⟨t1, t2, t3, t4, t5⟩ := id hT
  obtain ⟨w1, w2⟩ := thC_ok n1 n6
  have hA : ∀ q ∈ thA n, q.before args s = true := fun q hq => by
    rcases thA_ok n1 n6 q hq with z | z | z | z | ⟨x, hx, z⟩
    · exact hts q (hTB q z)
    · rw [z]; exact (t1.cond args).1
    · rw [z]; exact (t2.cond args).1
    · rw [z]; exact va_Nw.use rfl (t5 n n1 n6)
    · rw [z]; exact va_Nw.use rfl (t4 x hx)
  have hin : (Cond.instantiable (exN n) 6).before args s = true := hA _ (List.mem_append_right _ (List.mem_append_right _ (List.mem_append_right _ (List.mem_append_right _ (by simp [thX])))))
  obtain ⟨am, ham⟩ := t3 _ hstr
  intro ls H locs h
  refine W.newc hx hb hown (hts _ (hTB _ w1)) hin (hts _ (hTB _ w2)) rfl hd (by omega) (by omega) (fun cC kC h1 h2 h3 h4 => ?_)
  refine lv_dup hx hb d3 rfl ?_
  refine va_ldcS hx hb hown ham d4 ?_
  intro T hTh X
  have hP := h.2.2.2.2.1
  have hsz : s.heap.size ≤ H.size := h.2.2.2.2.2.2.1
  have hempty : ∀ x ∈ c.exceptionTable.toList, covers x (pc + 9) = false := fun x hx => by
    have h0 : c.exceptionTable.size = 0 := by simpa [Array.isEmpty] using hne
    have : c.exceptionTable.toList = [] := List.eq_nil_of_length_eq_zero (by simpa using h0)
    rw [this] at hx
    cases hx
  obtain ⟨U, ce, g1, g2, g3, g4, g5, g6, g7, g8⟩ := thr_ctor X hx (by rw [X.admits.platform]; exact htr hx) (n := n) hown hA ((t1.cond args).2) ((t2.cond args).2) (fun x hx cell hcell => hst _ (h.2.2.2.2.2.2.2.2 x hx) cell hcell) (a := H.size) h1 h2 (by rw [hTh]; simp) hsz (msg := .ref am) rfl (g := F0 m (pc + 6) ls (.ref am :: .ref H.size :: .ref H.size :: st.map (cV ad))) rfl (h.1.1.trans hml.symm) rfl rfl (rest := st.map (cV ad)) rfl (by rw [hb]; exact d6) (by rw [hb]; exact d9) hempty (by omega) (by
      have := cats (ad := ad) hl4
      show 2 * 0 + (1 + ((st.map (cV ad)).map fun v => v.category).sum) + 100 ≤ R.locals
      omega) hlocks
  have hk : ∀ q, q < H.size → U.heap[q]? = H[q]? := fun q hq => by
    rw [g6, hTh, Array.getElem?_setIfInBounds, if_neg (by omega), Array.getElem?_push, if_neg (by omega)]
  have hUs : U.heap.size = H.size + 1 := by rw [g6, hTh]; simp
  refine ⟨U, g1, .threw H.size, g2, g3, H.size, rfl, g4, ⟨locs, g5, h.2.2.2.2.2.2.2.2⟩, ⟨ce, ?_, g8, by rw [g7]; exact h1⟩, ⟨hP.kept (fun k x hx => hk x.1 ((hP k x hx).lt)), h.2.2.2.2.2.1.weaken (fun _ _ _ _ => trivial), hK.moved g4, h.2.2.2.1⟩, ⟨by omega, fun q h1 h2 => by rw [hk q (by omega)]; exact h.2.2.2.2.2.2.2.1 q h1 h2⟩⟩
  rw [g6, hTh, Array.getElem?_setIfInBounds, if_pos rfl, if_pos (by simp)]
end ZT
section ZT2
variable {p : Program} {l : Launch} {e : Env} {R : Room} {s : State} {m : MethodId} {args : Array Value} {below : List Frame} {meth : Method} {c : Code}
variable {ad : Nat → Nat} {D : va_G} {cT : Nat → ClassId} {y pc d : Nat} {als st : List AV} {w : Mem} {C : Nat → List AV → Mem → Option Res}
theorem z_runT {n : Nat} {w0 : Mem} (C0 : CXZ p s m args meth c (wsZ y) (mC y) (mB y) (mL y)) (hr : meth.sig.returnType = retT (mRt y)) (hlocks : meth.locks = false) (hy : y < mtt.length) (hc : mC y = 1) (hok : dOK y = true) (hK : KZ D cT s) (htr : p.tables.exec = Jvm.exec → l.stackTraces = false) (hne : c.exceptionTable.isEmpty = true) (hT : ThrK s) (hR : (d + 1 ≤ R.frames ∧ 40 * (d + 1) ≤ R.locals) ∧ 8 ≤ R.frames ∧ 300 ≤ R.locals ∧ 1 ≤ R.cells ∧ 6 ≤ R.slots)
    (hst : ∀ q, AZ ad s.heap.size q → ∀ cell, s.heap[q]? = some cell → cell.vm.isStatics = false)
    (hA : ∀ q, s.heap.size ≤ q → AZ ad s.heap.size q) (hC : SND l C d) : ∀ (k pc : Nat) (als st : List AV) (w : Mem), (pc, st.length) ∈ sdt y → runZ C y k (pc, als, st, w) = some (10 + n, aU, w0) →
    Wz p l e R s m args below meth c (MQT below (QT ad D cT (AZ ad s.heap.size) n w0) args s) ad D cT (AZ ad s.heap.size) y pc als st w := by
  intro k
  induction k with
  | zero => intro pc als st w _ h; cases h
  | succ k ih =>
    intro pc als st w hin h
    unfold runZ at h
    dsimp only at h
    cases hd : decode (mB y) pc with
    | error x => rw [hd] at h; cases h
    | ok t =>
      obtain ⟨i, len⟩ := t
      rw [hd] at h
      dsimp only at h
      obtain ⟨hk, h⟩ := if_s h
      obtain ⟨s1, s2⟩ := sd_step (C := C) (ls := als) (s := w) hok hd hin
      cases hs : stepZ C y i len pc als st w with
      | none => rw [hs] at h; cases h
      | some q =>
        rw [hs] at h
        refine z_step C0 hr hlocks (by omega) hK hR.1 hA hC hd hk hs (fun pc' als' st' w' hq => ?_) (fun r hq h10 => ?_) (fun idx t hi ht hq => ?_)
        · subst hq
          exact ih pc' als' st' w' (s1 _ hs) h
        · subst hq
          cases h
          exact absurd h10 (by show ¬ 10 + n < 10; omega)
        · subst hq
          have e : (10 + t, aU, w) = ((10 + n, aU, w0) : Res) := Option.some.inj h
          have e1 : t = n := by have := congrArg (fun r : Res => r.1) e; dsimp only at this; omega
          have e2 : w = w0 := congrArg (fun r : Res => r.2.2) e
          subst e1 e2
          subst hi
          have e3 := s2 idx rfl
          subst e3
          exact z_throw C0 hlocks hy hc hK htr hne hT hR.2 hst hd ht (Nat.zero_le _)
end ZT2
/-- the cells of a world are no statics -/
theorem wz_st {ad : Nat → Nat} {D : va_G} {cT : Nat → ClassId} {w : Mem} {t : State} (h : va_P D clZ (wS ad cT w) t.heap) : ∀ q, AZ ad t.heap.size q → ∀ cell, t.heap[q]? = some cell → cell.vm.isStatics = false := fun q hq cell hcell => by
  rcases hq with ⟨k, hk, rfl⟩ | hq
  · have h1 := h k _ (wS_get hk)
    unfold va_at at h1
    split at h1
    next a ha =>
      rw [show (ad k, cE ad cT w k).1 = ad k from rfl, hcell] at h1
      cases Option.some.inj h1
      unfold vp_cell
      split <;> rfl
    next o ho =>
      obtain ⟨r, -, cell', g1, g2, g3, -⟩ := h1
      rw [show (ad k, cE ad cT w k).1 = ad k from rfl, hcell] at g1
      cases Option.some.inj g1
      rw [g3]
      rfl
  · rw [Array.getElem?_eq_none hq] at hcell
    cases hcell
/-- A METHOD OF THE CLASS THAT THROWS IN THE SMALL MACHINE THROWS IN THE MACHINE -/
theorem z_metT (l : Launch) (hl : l.stackTraces = false) {ad : Nat → Nat} {D : va_G} {cT : Nat → ClassId} {d j n sz : Nat} {as : List AV} {w w' : Mem} (h1 : 64 ≤ j) (h2 : j ≤ 76) (h : Zc (d + 1) j as w = rT n w') (hok : ∀ v ∈ as, okV v) :
    MetFree l (mN j) (headSpec (wsZ j) (rmT (d + 1))) (PcT ad D cT w as sz) (fun _ _ _ _ _ => True) (QT ad D cT (AZ ad sz) n w') := by
  have hj : j < mtt.length := by rw [mtt_len]; omega
  have hb : ¬ (60 ≤ j ∧ j ≤ 62) := by omega
  obtain ⟨⟨hd, h0⟩, hc⟩ := sd_ok h1 h2
  replace h : Zc (d + 1) j as w = some (10 + n, aU, w') := h
  unfold Zc at h
  obtain ⟨hao, h⟩ := if_s h
  obtain ⟨k, hk⟩ := Ex_some.mp h
  obtain ⟨f1, f2, f3, f4, f5, f6, f7⟩ := fmAll j (by rw [← mtt_len]; exact hj) hb
  refine MetFree.of_bodyS (code := mB j) (maxLocals := mL j) (ret := retT (mRt j)) f3 ?_ ?_
  · intro args s m h hn
    obtain ⟨meth, c, h1, h2, h3, h4, h5, h6, -, -⟩ := Cond.code_spec hn (atoms_spec (ws := wsZ j) h _ List.mem_cons_self)
    exact ⟨meth, c, h1, h2, h3, h4, h5, h6⟩
  · intro p e s m args below meth c s₁ B hml hP _
    obtain ⟨⟨rfl, hsz, hP, hD, hK, hm⟩, hT⟩ := hP
    have hts := atoms_spec (ws := wsZ j) B.pre
    have hown : s.vm.findClass (clsN (mC j)) = some m.cls := by rw [← f4]; exact findClass_of_methodNamed B.named
    subst hsz
    have hA : ∀ q, s.heap.size ≤ q → AZ ad s.heap.size q := fun q hq => Or.inr hq
    have hD' : va_D (AZ ad s.heap.size) (wS ad cT w) := ⟨hD.1, fun k q hq => by
      have hk : k < lyt.length := by
        have := (List.getElem?_eq_some_iff.mp hq).1
        simpa [wS] using this
      rw [wS_get hk] at hq
      cases hq
      exact Or.inl ⟨k, hk, rfl⟩⟩
    have hw := z_runT (R := (headSpec (wsZ j) (rmT (d + 1))).room) (n := n) (w0 := w') ⟨B.exec, B.bytes, hml, hown, hts, fun q hq => List.mem_cons_of_mem _ hq⟩ B.returns B.notSynchronized hj hc hd hK (fun _ => hl) (B.noHandlers (hts _ List.mem_cons_self)) hT (d := d) ⟨⟨show d + 1 ≤ d + 1 + 8 by omega, show 40 * (d + 1) ≤ 40 * (d + 1) + 300 by omega⟩, show 8 ≤ d + 1 + 8 by omega, show 300 ≤ 40 * (d + 1) + 300 by omega, Nat.le_refl _, Nat.le_refl _⟩ (wz_st hP) hA (z_met l d) k 0 (entry j as) [] w h0 hk (e := e) (below := below)
    have hh0 : s₁.heap = s.heap := by rw [B.state]; rfl
    have hw2 := hw _ s.heap [] ⟨entryLR hao, entry_ok hok, (fun v hv => absurd hv List.not_mem_nil), hm, hP, hD', va_S.rf⟩
    obtain ⟨t, a1, o, b1, b2, b3⟩ := hw2 s₁ hh0 (Stand.of_body B)
    rw [lg_entry_eq]
    exact ⟨t, o, a1, b1, b2, b3⟩
