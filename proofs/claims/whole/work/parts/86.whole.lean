section ZB
variable {p : Program} {l : Launch} {e : Env} {R : Room} {s : State} {m : MethodId} {args : Array Value} {below : List Frame} {meth : Method} {c : Code} {Q : State → Prop}
variable {ad : Nat → Nat} {D : va_G} {cT : Nat → ClassId} {A : Nat → Prop} {y pc : Nat} {als st : List AV} {w : Mem} {cc : ByteArray}
theorem max_i {a b : Int} (ha : inI a) (hb : inI b) : (if i32 a < i32 b then i32 b else i32 a) = i32 (max a b) ∧ inI (max a b) := by
  by_cases q : a < b
  · rw [if_pos ((i32_lt ha hb).mpr q), Int.max_eq_right (by omega)]; exact ⟨rfl, hb⟩
  · rw [if_neg (fun z => q ((i32_lt ha hb).mp z)), Int.max_eq_left (by omega)]; exact ⟨rfl, ha⟩
theorem min_i {a b : Int} (ha : inI a) (hb : inI b) : (if i32 b < i32 a then i32 b else i32 a) = i32 (min a b) ∧ inI (min a b) := by
  by_cases q : b < a
  · rw [if_pos ((i32_lt hb ha).mpr q), Int.min_eq_right (by omega)]; exact ⟨rfl, hb⟩
  · rw [if_neg (fun z => q ((i32_lt hb ha).mp z)), Int.min_eq_left (by omega)]; exact ⟨rfl, ha⟩
theorem z_max {Ts : List Cond} {cl nL idx : Nat} (C0 : CXZ p s m args meth c Ts cl cc nL) (hn : mL y = nL) (hR : 1 ≤ R.frames ∧ 40 ≤ R.locals) (hln : Cond.methodLink (clsN cl) idx (mN 61) ∈ TBW) {a b : Int} (hl : st.length ≤ 4) (hd : decode cc pc = .ok (.invokestatic idx, 3)) (k : Wz p l e R s m args below meth c Q ad D cT A y (pc + 3) als (aI (max a b) :: st) w) : Wz p l e R s m args below meth c Q ad D cT A y pc als ((0, b) :: (0, a) :: st) w := fun ls H locs h => by
  obtain ⟨hx, hb, hml, hown, hts, hT⟩ := C0
  obtain ⟨z1, z2, z3, z4⟩ := zb_max
  rw [z4] at hln z1 z3
  have ib : inI b := h.pop.1 rfl
  have ia : inI a := h.pop.2.pop.1 rfl
  refine va_mmax hx hb (hml.trans (hn.symm.trans h.1.1.symm)) hown (hts _ (hT _ hln)) (hts _ (hT _ z1)) (hts _ (hT _ z2)) (hts _ (hT _ z3)) hR.1 ?_ (Nat.zero_le _) (Nat.zero_le _) hd (k.use (h.pop.2.pop.2.push (okV_I (max_i ia ib).2)) ?_)
  · have := cats (ad := ad) hl; omega
  · rw [List.map_cons, cV_I, ← (max_i ia ib).1]
theorem z_min {Ts : List Cond} {cl nL idx : Nat} (C0 : CXZ p s m args meth c Ts cl cc nL) (hn : mL y = nL) (hR : 1 ≤ R.frames ∧ 40 ≤ R.locals) (hln : Cond.methodLink (clsN cl) idx (mN 62) ∈ TBW) {a b : Int} (hl : st.length ≤ 4) (hd : decode cc pc = .ok (.invokestatic idx, 3)) (k : Wz p l e R s m args below meth c Q ad D cT A y (pc + 3) als (aI (min a b) :: st) w) : Wz p l e R s m args below meth c Q ad D cT A y pc als ((0, b) :: (0, a) :: st) w := fun ls H locs h => by
  obtain ⟨hx, hb, hml, hown, hts, hT⟩ := C0
  obtain ⟨z1, z2, z3, z4⟩ := zb_min
  rw [z4] at hln z1 z3
  have ib : inI b := h.pop.1 rfl
  have ia : inI a := h.pop.2.pop.1 rfl
  refine va_mmin hx hb (hml.trans (hn.symm.trans h.1.1.symm)) hown (hts _ (hT _ hln)) (hts _ (hT _ z1)) (hts _ (hT _ z2)) (hts _ (hT _ z3)) hR.1 ?_ (Nat.zero_le _) (Nat.zero_le _) hd (k.use (h.pop.2.pop.2.push (okV_I (min_i ia ib).2)) ?_)
  · have := cats (ad := ad) hl; omega
  · rw [List.map_cons, cV_I, ← (min_i ia ib).1]
theorem cpM_off {w : Mem} {a sp b dp n : Nat} : ∀ q, q ≠ b → ∀ j, cpM w a sp b dp n q j = w q j := fun q hq j => by unfold cpM; rw [if_neg (fun h => hq h.1)]
theorem z_copy {Ts : List Cond} {cl nL idx : Nat} (C0 : CXZ p s m args meth c Ts cl cc nL) (hK : KZ D cT s) (hnl : mL y = nL) (hR : 1 ≤ R.frames ∧ 40 ≤ R.locals) (hln : Cond.methodLink (clsN cl) idx (mN 60) ∈ TBW) {n dp sp : Int} {a b : Nat} (hi : 0 ≤ n ∧ 0 ≤ dp ∧ 0 ≤ sp ∧ sp + n ≤ aN1 a ∧ dp + n ≤ aN1 b ∧ 0 < aN1 a ∧ 0 < aN1 b ∧ st.length ≤ 4) (hd : decode cc pc = .ok (.invokestatic idx, 3)) (k : Wz p l e R s m args below meth c Q ad D cT A y (pc + 3) als st (cpM w a sp.toNat b dp.toNat n.toNat)) : Wz p l e R s m args below meth c Q ad D cT A y pc als ((0, n) :: (0, dp) :: aR b :: (0, sp) :: aR a :: st) w := fun ls H locs h => by
  obtain ⟨hx, hb, hml, hown, hts, hT⟩ := C0
  obtain ⟨z1, z2, z3, z4⟩ := zb_copy
  rw [z4] at hln z1 z3
  obtain ⟨i1, i2, i3, i4, i5, i7, i8, i6⟩ := hi
  have inn : inI n := h.pop.1 rfl
  have idp : inI dp := h.pop.2.pop.1 rfl
  have isp : inI sp := h.pop.2.pop.2.pop.2.pop.1 rfl
  have h2 := h.pop.2.pop.2.pop.2.pop.2.pop.2
  obtain ⟨ka, -⟩ := aN_k (i := 0) (Int.le_refl 0) i7
  obtain ⟨kb, -⟩ := aN_k (i := 0) (Int.le_refl 0) i8
  have la2 : sp + n ≤ ((kd a).2 : Int) := by unfold aN1 at i4; rw [if_pos ka] at i4; exact i4
  have lb2 : dp + n ≤ ((kd b).2 : Int) := by unfold aN1 at i5; rw [if_pos kb] at i5; exact i5
  have ga := (wS_get (ad := ad) (cT := cT) (m := w) (kd_lt ka (by decide))).trans (by rw [cE_1 ka])
  have gb := (wS_get (ad := ad) (cT := cT) (m := w) (kd_lt kb (by decide))).trans (by rw [cE_1 kb])
  have ng : ∀ {z : Int}, inI z → 0 ≤ z → ¬ i32 z < 0 := fun hz h0 q => by
    have := (i32_lt hz inI_0).mp q
    omega
  refine va_copyi hx hb (hml.trans (hnl.symm.trans h.1.1.symm)) hown (hts _ (hT _ hln)) (hts _ (hT _ z3)) (hts _ (hT _ z1)) (hts _ (hT _ z2)) hK.1 h.2.2.2.2.1 h.2.2.2.2.2.1 h.2.2.2.2.2.2 a b 0 0 ga gb rfl rfl rfl (ng isp i3) (ng idp i2) (ng inn (by omega)) (by rw [i32_clamp isp, i32_clamp inn]; omega) (by rw [i32_clamp idp, i32_clamp inn]; omega) (fun _ _ => rfl) hR.1 ?_ hd (fun H1 locs1 hP hD hS => ?_)
  · have := cats (ad := ad) i6
    have e : nativeFrameWords "java/lang/System" "arraycopy" 5 ≤ 20 := by decide +kernel
    omega
  · refine k.put h2 ?_ cpM_off (fun q j => ?_) hP hD hS rfl
    · rw [cE_1 kb, i32_clamp isp, i32_clamp idp, i32_clamp inn]
      refine congrArg (fun f => (Sum.inl (cT 1, (kd b).2, Sum.inl f) : va_E)) ?_
      funext j
      unfold cpM va_cpy
      by_cases q : dp.toNat ≤ j ∧ j < dp.toNat + n.toNat
      · rw [if_pos ⟨rfl, q.1, q.2⟩, if_pos q]
      · rw [if_neg (fun z => q ⟨z.2.1, z.2.2⟩), if_neg q]
    · unfold cpM
      split
      · exact h.2.2.2.1 _ _
      · exact h.2.2.2.1 _ _
end ZB

/-- what the callees say: each, from wherever it is called -/
def SND (l : Launch) (C : Nat → List AV → Mem → Option Res) (d : Nat) : Prop := ∀ (ad : Nat → Nat) (D : va_G) (cT : Nat → ClassId) (j : Nat) (as : List AV) (w : Mem) (r : Res) (sz : Nat), j < mtt.length → ¬ (60 ≤ j ∧ j ≤ 62) → C j as w = some r → (∀ v ∈ as, okV v) → r.1 < 10 → Met l (mN j) (wsZ j) (rmZ d) (PcZ ad D cT w as sz) (QZ ad D cT (AZ ad sz) r) 0 0 (AZ ad sz)
theorem lookup_mem {β : Type} {k : Nat} {v : β} : ∀ {l : List (Nat × β)}, l.lookup k = some v → (k, v) ∈ l := by
  intro l
  induction l with
  | nil => intro h; cases h
  | cons q l ih =>
    obtain ⟨a, b⟩ := q
    intro h
    rw [List.lookup_cons] at h
    split at h
    next e =>
      cases h
      rw [show k = a by simpa using e]
      exact List.mem_cons_self
    next => exact List.mem_cons_of_mem _ (ih h)
theorem pml_lt {c idx j : Nat} (h : pml c idx = some j) : (idx, j) ∈ pmt.getD c [] := by
  unfold pml at h
  exact lookup_mem h
theorem pfl_lt {c idx : Nat} {q : Nat × Nat} (h : pfl c idx = some q) : (idx, q) ∈ pft.getD c [] := by
  unfold pfl at h
  exact lookup_mem h
theorem pcl_lt {c idx : Nat} {v : Int} (h : pcl c idx = some v) : (idx, v) ∈ pct.getD c [] := by
  unfold pcl at h
  exact lookup_mem h
theorem mtt_len : mtt.length = 171 := by decide +kernel
theorem pmt_all : pmt.all (fun l => l.all (fun q => decide (q.2 < mtt.length))) = true := by decide +kernel
theorem pml_j {c idx j : Nat} (h : pml c idx = some j) : j < mtt.length := by
  have h1 := pml_lt h
  rw [List.getD_eq_getElem?_getD] at h1
  cases h2 : pmt[c]? with
  | none => rw [h2] at h1; cases h1
  | some x =>
    rw [h2] at h1
    have h3 := List.all_eq_true.mp pmt_all x (List.mem_of_getElem? h2)
    have h4 := List.all_eq_true.mp h3 _ h1
    simpa using h4
theorem bi_all : mSt 60 = 1 ∧ mSt 61 = 1 ∧ mSt 62 = 1 := by decide +kernel
theorem bi_st {j : Nat} (h : 60 ≤ j ∧ j ≤ 62) : ¬ mSt j = 0 := by
  obtain ⟨h1, h2, h3⟩ := bi_all
  rcases (by omega : j = 60 ∨ j = 61 ∨ j = 62) with rfl | rfl | rfl
  · rw [h1]; decide
  · rw [h2]; decide
  · rw [h3]; decide
theorem mtt_all : mtt.all (fun q => decide ((q.2.2.2.2.2 = 0 → q.1 < 13) ∧ q.2.2.1 ≤ 20)) = true := by decide +kernel
theorem mtt_f {j : Nat} (h : j < mtt.length) : (mSt j = 0 → mC j < 13) ∧ mL j ≤ 20 := by
  have h1 := List.all_eq_true.mp mtt_all _ (List.getElem_mem h)
  have e : mth j = mtt[j] := by unfold mth; rw [List.getD_eq_getElem?_getD, List.getElem?_eq_getElem h]; rfl
  unfold mSt mC mL
  rw [e]
  exact of_decide_eq_true h1
theorem fl_plain {c idx j : Nat} (h : FL nstW c idx j) (hj : 60 ≤ j ∧ j ≤ 62) : Cond.methodLink (clsN c) idx (mN j) ∈ TBW := by
  rcases h with z | ⟨z, -⟩
  · exact z
  · exact absurd hj z.1
theorem clzAll : ∀ c, c < 13 → clZ[c]? = some (clsN c, TZ c, nfZ c) := lt_s (lt_s (lt_s (lt_s (lt_s (lt_s (lt_s (lt_s (lt_s (lt_s (lt_s (lt_s (lt_s lt_0 rfl) rfl) rfl) rfl) rfl) rfl) rfl) rfl) rfl) rfl) rfl) rfl) rfl
