section ZS2
variable {p : Program} {l : Launch} {e : Env} {R : Room} {s : State} {m : MethodId} {args : Array Value} {below : List Frame} {meth : Method} {c : Code} {Q : State → Prop}
variable {ad : Nat → Nat} {D : va_G} {cT : Nat → ClassId} {A : Nat → Prop} {y pc : Nat} {als st : List AV} {w : Mem} {cc : ByteArray}
theorem Wz.put {pc' : Nat} {ls : Array Slot} {H H1 : Heap} {locs locs1 : List Loc} {w' : Mem} {k : Nat} {E : va_E} {rs : List Value} (kk : Wz p l e R s m args below meth c Q ad D cT A y pc' als st w') (h : SZ ad D cT A y s.heap ls als st w H locs)
    (hE : cE ad cT w' k = E) (ho : ∀ q, q ≠ k → ∀ j, w' q j = w q j) (hm : MOK w') (hP : va_P D clZ ((wS ad cT w).set k (ad k, E)) H1) (hD : va_D A ((wS ad cT w).set k (ad k, E))) (hS : va_S A s.heap H1 locs1) (he : st.map (cV ad) = rs) : W p l e R s m args below meth c H1 locs1 0 0 Q (F0 m pc' ls rs) := by
  rw [wS_set hE ho] at hP hD
  exact kk.use ⟨h.1, h.2.1, h.2.2.1, hm, hP, hD, hS⟩ he
theorem mu_ok {w : Mem} {k j : Nat} {v : Int} (h : MOK w) (hv : inI v) : MOK (mu w k j v) := fun a b => by
  unfold mu
  split
  · exact hv
  · exact h a b
theorem mu_off {w : Mem} {k j : Nat} {v : Int} : ∀ q, q ≠ k → ∀ i, mu w k j v q i = w q i := fun q hq i => mu_c hq
theorem mu_row {w : Mem} {k j : Nat} {v : Int} : (fun i => i32 (mu w k j v k i)) = upd (fun i => i32 (w k i)) j (i32 v) := by
  funext i
  unfold mu upd
  by_cases h : i = j
  · simp [h]
  · simp [h]
theorem aN_k {r t : Nat} {i : Int} (h : 0 ≤ i) (h1 : i < (if (kd r).1 = t then ((kd r).2 : Int) else 0)) : (kd r).1 = t ∧ i < ((kd r).2 : Int) := by
  split at h1
  next q => exact ⟨q, h1⟩
  next => omega
theorem cE_1 {w : Mem} {k : Nat} (h : (kd k).1 = 1) : cE ad cT w k = .inl (cT 1, (kd k).2, .inl (fun j => i32 (w k j))) := by unfold cE; rw [h]; rfl
theorem cE_2 {w : Mem} {k : Nat} (h : (kd k).1 = 2) : cE ad cT w k = .inl (cT 2, (kd k).2, .inl (fun j => i32 (w k j))) := by unfold cE; rw [h]; rfl
theorem cE_3 {w : Mem} {k : Nat} (h : (kd k).1 = 3) : cE ad cT w k = .inl (cT 3, (kd k).2, .inl (fun j => i32 (w k j))) := by unfold cE; rw [h]; rfl
theorem cE_4 {w : Mem} {k : Nat} (h : (kd k).1 = 4) : cE ad cT w k = .inl (cT 4, (kd k).2, .inr (.inr (.inr (.inr (fun j => some (ad (rcn k j))))))) := by unfold cE; rw [h]; rfl
theorem cE_0 {w : Mem} {k : Nat} (h : (kd k).1 = 0) : cE ad cT w k = .inr ((kd k).2, (List.range (nfZ (kd k).2)).map (fun j => cF ad (fkd (kd k).2 j) (fcn k j) (w k j))) := by unfold cE; rw [h]; rfl
theorem z_iaload (hx : p.tables.exec = Jvm.exec) (hb : c.code = cc) (hK : KZ D cT s) {i : Int} {r : Nat} (hd : decode cc pc = .ok (.iaload, 1)) (hi : 0 ≤ i ∧ i < aN1 r) (k : Wz p l e R s m args below meth c Q ad D cT A y (pc + 1) als (aI (w r i.toNat) :: st) w) : Wz p l e R s m args below meth c Q ad D cT A y pc als ((0, i) :: aR r :: st) w := fun ls H locs h => by
  obtain ⟨hk, hlt⟩ := aN_k hi.1 hi.2
  have ii : inI i := h.pop.1 rfl
  have h2 := h.pop.2.pop.2
  have hg := (wS_get (ad := ad) (cT := cT) (m := w) (kd_lt hk (by decide))).trans (by rw [cE_1 hk])
  refine va_iald hx hb hK.1 h.2.2.2.2.1 r 0 hg rfl (i32_vp ii hi.1 hlt) hd (k.use (h2.push (okV_I (h.2.2.2.1 r _))) ?_)
  rw [List.map_cons, cV_I, i32_clamp ii]
theorem z_baload (hx : p.tables.exec = Jvm.exec) (hb : c.code = cc) (hK : KZ D cT s) {i : Int} {r : Nat} (hd : decode cc pc = .ok (.baload, 1)) (hi : 0 ≤ i ∧ i < aN2 r) (k : Wz p l e R s m args below meth c Q ad D cT A y (pc + 1) als (aI (w r i.toNat) :: st) w) : Wz p l e R s m args below meth c Q ad D cT A y pc als ((0, i) :: aR r :: st) w := fun ls H locs h => by
  obtain ⟨hk, hlt⟩ := aN_k hi.1 hi.2
  have ii : inI i := h.pop.1 rfl
  have h2 := h.pop.2.pop.2
  have hg := (wS_get (ad := ad) (cT := cT) (m := w) (kd_lt hk (by decide))).trans (by rw [cE_2 hk])
  refine va_zald hx hb hK.1 h.2.2.2.2.1 r 1 hg rfl (i32_vp ii hi.1 hlt) hd (k.use (h2.push (okV_I (h.2.2.2.1 r _))) ?_)
  rw [List.map_cons, cV_I, i32_clamp ii]
theorem z_caload (hx : p.tables.exec = Jvm.exec) (hb : c.code = cc) (hK : KZ D cT s) {i : Int} {r : Nat} (hd : decode cc pc = .ok (.caload, 1)) (hi : 0 ≤ i ∧ i < aN3 r) (k : Wz p l e R s m args below meth c Q ad D cT A y (pc + 1) als (aI (w r i.toNat) :: st) w) : Wz p l e R s m args below meth c Q ad D cT A y pc als ((0, i) :: aR r :: st) w := fun ls H locs h => by
  obtain ⟨hk, hlt⟩ := aN_k hi.1 hi.2
  have ii : inI i := h.pop.1 rfl
  have h2 := h.pop.2.pop.2
  have hg := (wS_get (ad := ad) (cT := cT) (m := w) (kd_lt hk (by decide))).trans (by rw [cE_3 hk])
  refine va_cald hx hb hK.1 h.2.2.2.2.1 r 2 hg rfl (i32_vp ii hi.1 hlt) hd (k.use (h2.push (okV_I (h.2.2.2.1 r _))) ?_)
  rw [List.map_cons, cV_I, i32_clamp ii]
theorem z_aaload (hx : p.tables.exec = Jvm.exec) (hb : c.code = cc) (hK : KZ D cT s) {i : Int} {r : Nat} (hd : decode cc pc = .ok (.aaload, 1)) (hi : 0 ≤ i ∧ i < aN4 r) (k : Wz p l e R s m args below meth c Q ad D cT A y (pc + 1) als (aR (rcn r i.toNat) :: st) w) : Wz p l e R s m args below meth c Q ad D cT A y pc als ((0, i) :: aR r :: st) w := fun ls H locs h => by
  obtain ⟨hk, hlt⟩ := aN_k hi.1 hi.2
  have ii : inI i := h.pop.1 rfl
  have h2 := h.pop.2.pop.2
  have hg := (wS_get (ad := ad) (cT := cT) (m := w) (kd_lt hk (by decide))).trans (by rw [cE_4 hk])
  have hin := i32_vp ii hi.1 hlt
  have hl2 : (i32 i).toNatClampNeg < (kd r).2 := Nat.not_le.mp fun q => hin (Or.inr q)
  refine W.aald (v := va_rf (some (ad (rcn r (i32 i).toNatClampNeg)))) (ty := .array .int) hx hb (h.2.2.2.2.1 r _ hg) ((hK.1.2 3 (cT 4, .array .int) rfl).1 _ (fun j => va_rf (some (ad (rcn r j))))) rfl (fun q => by cases q) (by show ¬ (i32 i < 0 ∨ (arrV _ _ _).slots.size ≤ _); rw [arrV_size]; exact hin) (by show (arrV _ _ _).slots[_]? = _; rw [arrV_read _ _ hl2]) rfl rfl hd (k.use (h2.push (okV_R _)) ?_)
  rw [List.map_cons, i32_clamp ii, cV_R]
  rfl
theorem z_iastore (hx : p.tables.exec = Jvm.exec) (hb : c.code = cc) (hK : KZ D cT s) {i v : Int} {r : Nat} (hd : decode cc pc = .ok (.iastore, 1)) (hi : 0 ≤ i ∧ i < aN1 r) (k : Wz p l e R s m args below meth c Q ad D cT A y (pc + 1) als st (mu w r i.toNat v)) : Wz p l e R s m args below meth c Q ad D cT A y pc als ((0, v) :: (0, i) :: aR r :: st) w := fun ls H locs h => by
  obtain ⟨hk, hlt⟩ := aN_k hi.1 hi.2
  have iv : inI v := h.pop.1 rfl
  have ii : inI i := h.pop.2.pop.1 rfl
  have h2 := h.pop.2.pop.2.pop.2
  have hg := (wS_get (ad := ad) (cT := cT) (m := w) (kd_lt hk (by decide))).trans (by rw [cE_1 hk])
  refine va_iast hx hb hK.1 h.2.2.2.2.1 h.2.2.2.2.2.1 h.2.2.2.2.2.2 r 0 hg rfl (i32_vp ii hi.1 hlt) hd (fun H1 locs1 hP hD hS => ?_)
  exact k.put h2 (by rw [cE_1 hk, mu_row, i32_clamp ii]) mu_off (mu_ok h.2.2.2.1 iv) hP hD hS rfl
theorem z_bastore (hx : p.tables.exec = Jvm.exec) (hb : c.code = cc) (hK : KZ D cT s) {i v : Int} {r : Nat} (hd : decode cc pc = .ok (.bastore, 1)) (hi : 0 ≤ i ∧ i < aN2 r ∧ (v = 0 ∨ v = 1)) (k : Wz p l e R s m args below meth c Q ad D cT A y (pc + 1) als st (mu w r i.toNat v)) : Wz p l e R s m args below meth c Q ad D cT A y pc als ((0, v) :: (0, i) :: aR r :: st) w := fun ls H locs h => by
  obtain ⟨hk, hlt⟩ := aN_k hi.1 hi.2.1
  have iv : inI v := h.pop.1 rfl
  have ii : inI i := h.pop.2.pop.1 rfl
  have h2 := h.pop.2.pop.2.pop.2
  have hg := (wS_get (ad := ad) (cT := cT) (m := w) (kd_lt hk (by decide))).trans (by rw [cE_2 hk])
  have hn : vp_nar .boolean (i32 v) = i32 v := by rcases hi.2.2 with q | q <;> subst q <;> rfl
  refine va_zast hx hb hK.1 h.2.2.2.2.1 h.2.2.2.2.2.1 h.2.2.2.2.2.2 r 1 hg rfl (i32_vp ii hi.1 hlt) hd (fun H1 locs1 hP hD hS => ?_)
  exact k.put h2 (by rw [cE_2 hk, mu_row, i32_clamp ii, hn]) mu_off (mu_ok h.2.2.2.1 iv) hP hD hS rfl
theorem z_castore (hx : p.tables.exec = Jvm.exec) (hb : c.code = cc) (hK : KZ D cT s) {i v : Int} {r : Nat} (hd : decode cc pc = .ok (.castore, 1)) (hi : 0 ≤ i ∧ i < aN3 r ∧ 0 ≤ v ∧ v < 65536) (k : Wz p l e R s m args below meth c Q ad D cT A y (pc + 1) als st (mu w r i.toNat v)) : Wz p l e R s m args below meth c Q ad D cT A y pc als ((0, v) :: (0, i) :: aR r :: st) w := fun ls H locs h => by
  obtain ⟨hk, hlt⟩ := aN_k hi.1 hi.2.1
  have iv : inI v := h.pop.1 rfl
  have ii : inI i := h.pop.2.pop.1 rfl
  have h2 := h.pop.2.pop.2.pop.2
  have hg := (wS_get (ad := ad) (cT := cT) (m := w) (kd_lt hk (by decide))).trans (by rw [cE_3 hk])
  have hn : vp_nar .char (i32 v) = i32 v := by
    obtain ⟨n, rfl⟩ := Int.eq_ofNat_of_zero_le hi.2.2.1
    unfold vp_nar
    rw [i32_nat, (pk_charN (q := n) (by omega)).1]
  refine va_cast hx hb hK.1 h.2.2.2.2.1 h.2.2.2.2.2.1 h.2.2.2.2.2.2 r 2 hg rfl (i32_vp ii hi.1 hlt) hd (fun H1 locs1 hP hD hS => ?_)
  exact k.put h2 (by rw [cE_3 hk, mu_row, i32_clamp ii, hn]) mu_off (mu_ok h.2.2.2.1 iv) hP hD hS rfl
theorem z_arraylength (hx : p.tables.exec = Jvm.exec) (hb : c.code = cc) (hK : KZ D cT s) {r : Nat} (hd : decode cc pc = .ok (.arraylength, 1)) (hk : (kd r).1 = 1) (hn : inI ((kd r).2 : Int)) (k : Wz p l e R s m args below meth c Q ad D cT A y (pc + 1) als (aI ((kd r).2 : Int) :: st) w) : Wz p l e R s m args below meth c Q ad D cT A y pc als (aR r :: st) w := fun ls H locs h => by
  have hg := (wS_get (ad := ad) (cT := cT) (m := w) (kd_lt hk (by decide))).trans (by rw [cE_1 hk])
  refine va_alen hx hb hK.1 h.2.2.2.2.1 r 0 hg rfl rfl hd (k.use (h.pop.2.push (okV_I hn)) ?_)
  rw [List.map_cons, cV_I]
  rfl
theorem z_tswitch (hx : p.tables.exec = Jvm.exec) (hb : c.code = cc) {a d lo hi : Int} {offs : Array Int} {len : Nat} (hd : decode cc pc = .ok (.tableswitch d lo hi offs, len)) (hd0 : 0 ≤ (pc : Int) + d) (ho : ∀ o ∈ offs.toList, 0 ≤ (pc : Int) + o)
    (kd' : (a < lo ∨ hi < a) → Wz p l e R s m args below meth c Q ad D cT A y (tg pc d) als st w) (ko : ∀ o, ¬ (a < lo ∨ hi < a) → offs[(a - lo).toNat]? = some o → Wz p l e R s m args below meth c Q ad D cT A y (tg pc o) als st w) (hs : a < lo ∨ hi < a ∨ ∃ o, offs[(a - lo).toNat]? = some o) : Wz p l e R s m args below meth c Q ad D cT A y pc als ((0, a) :: st) w := fun ls H locs h => by
  have ia : inI a := h.pop.1 rfl
  have h2 := h.pop.2
  by_cases hq : a < lo ∨ hi < a
  · exact lv_tableOut (x := i32 a) hx hb hd (by rw [i32_back ia]; exact hq) (tg_of hd0) ((kd' hq).use h2 rfl)
  · obtain ⟨o, hoo⟩ : ∃ o, offs[(a - lo).toNat]? = some o := by
      rcases hs with z | z | z
      · exact absurd (Or.inl z) hq
      · exact absurd (Or.inr z) hq
      · exact z
    exact lv_tableIn (x := i32 a) hx hb hd (by rw [i32_back ia]; exact fun z => hq (Or.inl z)) (by rw [i32_back ia]; exact fun z => hq (Or.inr z)) (by rw [i32_back ia]; exact hoo) (tg_of (ho o (by rw [← Array.getElem?_toList] at hoo; exact List.mem_of_getElem? hoo))) ((ko o hq hoo).use h2 rfl)
theorem off_mem {l : List (Int × Int)} {d a : Int} : Op.lookupswitch.offset l d a = d ∨ ∃ q ∈ l, Op.lookupswitch.offset l d a = q.2 := by
  induction l with
  | nil => exact Or.inl rfl
  | cons q l ih =>
    obtain ⟨k, o⟩ := q
    rw [Op.lookupswitch.offset_cons]
    split
    · exact Or.inr ⟨(k, o), List.mem_cons_self, rfl⟩
    · rcases ih with z | ⟨q, hq, z⟩
      · exact Or.inl z
      · exact Or.inr ⟨q, List.mem_cons_of_mem _ hq, z⟩
theorem z_lswitch (hx : p.tables.exec = Jvm.exec) (hb : c.code = cc) {a d : Int} {ps : Array (Int × Int)} {len : Nat} (hd : decode cc pc = .ok (.lookupswitch d ps, len)) (hd0 : 0 ≤ (pc : Int) + d) (ho : ∀ q ∈ ps.toList, 0 ≤ (pc : Int) + q.2) (hp : (ps.toList.zip (ps.toList.drop 1)).all (fun (a, next) => a.1 < next.1) = true)
    (k : Wz p l e R s m args below meth c Q ad D cT A y (tg pc (Op.lookupswitch.offset ps.toList d a)) als st w) : Wz p l e R s m args below meth c Q ad D cT A y pc als ((0, a) :: st) w := fun ls H locs h => by
  have ia : inI a := h.pop.1 rfl
  refine lv_lookup (x := i32 a) hx hb hd hp (by rw [i32_back ia]) (tg_of ?_) (k.use h.pop.2 rfl)
  rcases off_mem (l := ps.toList) (d := d) (a := a) with z | ⟨q, hq, z⟩
  · rw [z]; exact hd0
  · rw [z]; exact ho q hq
theorem z_getfield (hx : p.tables.exec = Jvm.exec) (hb : c.code = cc) (hK : KZ D cT s) {idx ci k r : Nat} {v : AV} {Ts : List Cond} (hts : ∀ q ∈ Ts, q.before args s = true) (hT : ∀ q ∈ TBW, q ∈ Ts) {cl : Nat} (hown : s.vm.findClass (clsN cl) = some m.cls) (hf : FFz cl idx ci k) (hc : FC ci) (hci : ci < 999) (hd : decode cc pc = .ok (.getfield idx, 3)) (hr : obC r = ci) (hv : fldV ci k r w = some v)
    (kk : Wz p l e R s m args below meth c Q ad D cT A y (pc + 3) als (v :: st) w) : Wz p l e R s m args below meth c Q ad D cT A y pc als (aR r :: st) w := fun ls H locs h => by
  obtain ⟨hk, rfl⟩ := obC_k hr hci
  have hg := (wS_get (ad := ad) (cT := cT) (m := w) (kd_lt hk (by decide))).trans (by rw [cE_0 hk])
  have hcF : cF ad (fkd (kd r).2 k) (fcn r k) (w r k) = cV ad v := by
    unfold fldV at hv
    split at hv
    next q => cases hv; rw [q]; rfl
    next q => cases hv; rw [q]; rfl
    next q =>
      split at hv
      next h0 => cases hv; rw [q]; show (if 0 ≤ w r k then Value.ref (ad (w r k).toNat) else Value.null) = _; rw [if_pos h0]; rfl
      next => cases hv
    next q => cases hv; rw [q, cV_R]; rfl
    next => cases hv
  have hov : okV v := by
    unfold fldV at hv
    split at hv
    next q => cases hv; exact okV_I (h.2.2.2.1 r k)
    next q => cases hv; exact okV_I (h.2.2.2.1 r k)
    next q =>
      split at hv
      next h0 => cases hv; exact okV_1 _
      next => cases hv
    next q => cases hv; exact okV_R _
    next => cases hv
  refine va_get (cl := clZ) (v := cV ad v) (C := clsN (kd r).2) (T := TZ (kd r).2) (N := nfZ (kd r).2) hx hb hts (fun q hq => hT q (hc.1 q hq)) hown hK.1 h.2.2.2.2.1 r hg hf.2.2.1 k hf.2.1 (hts _ (hT _ hf.1)) (fun x hx => by rw [hf.2.2.2] at hx; exact hx) ?_ hd (kk.use (h.pop.2.push hov) rfl)
  rw [List.getElem?_map, List.getElem?_range hf.2.1, ← hcF]
  rfl
theorem z_putfield (hx : p.tables.exec = Jvm.exec) (hb : c.code = cc) (hK : KZ D cT s) {idx ci k r : Nat} {v : AV} {Ts : List Cond} (hts : ∀ q ∈ Ts, q.before args s = true) (hT : ∀ q ∈ TBW, q ∈ Ts) {cl : Nat} (hown : s.vm.findClass (clsN cl) = some m.cls) (hf : FFz cl idx ci k) (hc : FC ci) (hci : ci < 999) (hd : decode cc pc = .ok (.putfield idx, 3)) (hr : obC r = ci)
    (hfin : (TZ ci k).2.2.2 = false) (hn : narrow (tyZ ci k) (cV ad v) = cV ad v) (hfit : fits (tyZ ci k) (cV ad v) = true) (hcF : cF ad (fkd ci k) (fcn r k) v.2 = cV ad v) (hiv : inI v.2) (kk : Wz p l e R s m args below meth c Q ad D cT A y (pc + 3) als st (mu w r k v.2)) : Wz p l e R s m args below meth c Q ad D cT A y pc als (v :: aR r :: st) w := fun ls H locs h => by
  obtain ⟨hk, rfl⟩ := obC_k hr hci
  have hg := (wS_get (ad := ad) (cT := cT) (m := w) (kd_lt hk (by decide))).trans (by rw [cE_0 hk])
  have hE : cE ad cT (mu w r k v.2) r = .inr ((kd r).2, ((List.range (nfZ (kd r).2)).map (fun j => cF ad (fkd (kd r).2 j) (fcn r j) (w r j))).set k (cV ad v)) := by
    rw [cE_0 hk]
    refine congrArg (fun x => (Sum.inr ((kd r).2, x) : va_E)) ?_
    apply List.ext_getElem?
    intro j
    rw [List.getElem?_set, List.length_map, List.length_range, List.getElem?_map, List.getElem?_map]
    by_cases hj : k = j
    · subst hj
      rw [if_pos rfl, if_pos hf.2.1, List.getElem?_range hf.2.1, ← hcF]
      show some (cF ad (fkd (kd r).2 k) (fcn r k) (mu w r k v.2 r k)) = _
      rw [mu_s]
    · rw [if_neg hj]
      rcases Nat.lt_or_ge j (nfZ (kd r).2) with q | q
      · rw [List.getElem?_range q]
        show some (cF ad (fkd (kd r).2 j) (fcn r j) (mu w r k v.2 r j)) = some _
        rw [mu_i (fun z => hj z.symm)]
      · rw [List.getElem?_eq_none (by rw [List.length_range]; exact q)]
        rfl
  refine va_put (cl := clZ) (v := cV ad v) (ty := tyZ (kd r).2 k) (C := clsN (kd r).2) (T := TZ (kd r).2) (N := nfZ (kd r).2) hx hb hts (fun q hq => hT q (hc.1 q hq)) (tyZ (kd r).2) hc.2.1 hc.2.2 hown hK.1 h.2.2.2.2.1 h.2.2.2.2.2.1 h.2.2.2.2.2.2 r hg hf.2.2.1 k hf.2.1 (hts _ (hT _ hf.1)) (fun x hx => by rw [hf.2.2.2] at hx; exact hx) hfin (hc.2.1 k hf.2.1) hn hfit (by rw [List.length_map, List.length_range]; exact hf.2.1) hd (fun H1 locs1 hP hD hS => ?_)
  exact kk.put h.pop.2.pop.2 hE mu_off (mu_ok h.2.2.2.1 hiv) hP hD hS rfl
theorem SZ.top {H0 : Heap} {ls : Array Slot} {H : Heap} {locs : List Loc} {z : Int} (h : SZ ad D cT A y H0 ls als ((0, z) :: st) w H locs) : inI z := h.pop.1 rfl
theorem z_put0 (hx : p.tables.exec = Jvm.exec) (hb : c.code = cc) (hK : KZ D cT s) {idx ci k r : Nat} {Ts : List Cond} (hts : ∀ q ∈ Ts, q.before args s = true) (hT : ∀ q ∈ TBW, q ∈ Ts) {cl : Nat} (hown : s.vm.findClass (clsN cl) = some m.cls) (hf : FFz cl idx ci k) (hc : FC ci) (hci : ci < 999) (hd : decode cc pc = .ok (.putfield idx, 3)) (hr : obC r = ci) {v : Int} (hz : fkd ci k = 0) (ht : tyZ ci k = .int ∧ (TZ ci k).2.2.2 = false) (kk : Wz p l e R s m args below meth c Q ad D cT A y (pc + 3) als st (mu w r k v)) : Wz p l e R s m args below meth c Q ad D cT A y pc als ((0, v) :: aR r :: st) w := fun ls H locs h =>
  z_putfield hx hb hK hts hT hown hf hc hci hd hr ht.2 (by rw [ht.1]; rfl) (by rw [ht.1]; rfl) (by rw [hz]; rfl) (h.top) kk ls H locs h
theorem z_put1 (hx : p.tables.exec = Jvm.exec) (hb : c.code = cc) (hK : KZ D cT s) {idx ci k r : Nat} {Ts : List Cond} (hts : ∀ q ∈ Ts, q.before args s = true) (hT : ∀ q ∈ TBW, q ∈ Ts) {cl : Nat} (hown : s.vm.findClass (clsN cl) = some m.cls) (hf : FFz cl idx ci k) (hc : FC ci) (hci : ci < 999) (hd : decode cc pc = .ok (.putfield idx, 3)) (hr : obC r = ci) {v : Int} (hz : fkd ci k = 1) (ht : tyZ ci k = .boolean ∧ (TZ ci k).2.2.2 = false) (h01 : v = 0 ∨ v = 1) (kk : Wz p l e R s m args below meth c Q ad D cT A y (pc + 3) als st (mu w r k v)) : Wz p l e R s m args below meth c Q ad D cT A y pc als ((0, v) :: aR r :: st) w := fun ls H locs h =>
  z_putfield hx hb hK hts hT hown hf hc hci hd hr ht.2 (by rw [ht.1]; rcases h01 with q | q <;> subst q <;> rfl) (by rw [ht.1]; rcases h01 with q | q <;> subst q <;> rfl) (by rw [hz]; rfl) (h.top) kk ls H locs h
theorem lyt_len : lyt.length = 151 := by decide +kernel
theorem narrow_ref {ty : FieldType} (h : ty.isReference = true) (a : Nat) : narrow ty (.ref a) = .ref a := by cases ty <;> first | rfl | cases h
theorem z_put2 (hx : p.tables.exec = Jvm.exec) (hb : c.code = cc) (hK : KZ D cT s) {idx ci k r : Nat} {Ts : List Cond} (hts : ∀ q ∈ Ts, q.before args s = true) (hT : ∀ q ∈ TBW, q ∈ Ts) {cl : Nat} (hown : s.vm.findClass (clsN cl) = some m.cls) (hf : FFz cl idx ci k) (hc : FC ci) (hci : ci < 999) (hd : decode cc pc = .ok (.putfield idx, 3)) (hr : obC r = ci) {v : Nat} (hz : fkd ci k = 2) (ht : (TZ ci k).2.2.2 = false ∧ ((tyZ ci k).isReference = true ∧ ∀ a, fits (tyZ ci k) (.ref a) = true)) (hv : v < lyt.length) (kk : Wz p l e R s m args below meth c Q ad D cT A y (pc + 3) als st (mu w r k (v : Int))) : Wz p l e R s m args below meth c Q ad D cT A y pc als (aR v :: aR r :: st) w := fun ls H locs h =>
  z_putfield (v := aR v) hx hb hK hts hT hown hf hc hci hd hr ht.1 (by rw [cV_R]; exact narrow_ref ht.2.1 _) (by rw [cV_R]; exact ht.2.2 _) (by rw [hz, cV_R]; show (if 0 ≤ (v : Int) then Value.ref (ad (v : Int).toNat) else Value.null) = _; rw [if_pos (Int.natCast_nonneg v), Int.toNat_natCast]) (by rw [lyt_len] at hv; show -2147483648 ≤ (v : Int) ∧ (v : Int) ≤ 2147483647; omega) kk ls H locs h
theorem kd_all : lyt.all (fun q => decide (q.2 < 1000000)) = true := by decide +kernel
theorem kd_in (r : Nat) : inI ((kd r).2 : Int) := by
  have : (kd r).2 < 1000000 := by
    unfold kd
    rw [List.getD_eq_getElem?_getD]
    cases h : lyt[r]? with
    | none => decide
    | some q =>
      have := List.all_eq_true.mp kd_all q (List.mem_of_getElem? h)
      simpa using this
  unfold inI
  omega
theorem clZ_lt {ci : Nat} {q : vw_C} (h : clZ[ci]? = some q) : ci < 13 := (List.getElem?_eq_some_iff.mp h).1
end ZS2
