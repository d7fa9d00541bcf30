/-- the frame, its stack and the cells as the small machine has them -/
def SZ (ad : Nat → Nat) (D : va_G) (cT : Nat → ClassId) (A : Nat → Prop) (y : Nat) (H0 : Heap) (ls : Array Slot) (als ast : List AV) (w : Mem) (H : Heap) (locs : List Loc) : Prop :=
  LRz ad (mLg y) (mL y) ls als ∧ (∀ v ∈ als, okV v) ∧ (∀ v ∈ ast, okV v) ∧ MOK w ∧ va_P D clZ (wS ad cT w) H ∧ va_D A (wS ad cT w) ∧ va_S A H0 H locs
def Wz (p : Program) (l : Launch) (e : Env) (R : Room) (s : State) (m : MethodId) (args : Array Value) (below : List Frame) (meth : Method) (c : Code) (Q : State → Prop) (ad : Nat → Nat) (D : va_G) (cT : Nat → ClassId) (A : Nat → Prop) (y : Nat) (pc : Nat) (als ast : List AV) (w : Mem) : Prop :=
  ∀ (ls : Array Slot) (H : Heap) (locs : List Loc), SZ ad D cT A y s.heap ls als ast w H locs → W p l e R s m args below meth c H locs 0 0 Q (F0 m pc ls (ast.map (cV ad)))
section ZS
variable {p : Program} {l : Launch} {e : Env} {R : Room} {s : State} {m : MethodId} {args : Array Value} {below : List Frame} {meth : Method} {c : Code} {Q : State → Prop}
variable {ad : Nat → Nat} {D : va_G} {cT : Nat → ClassId} {A : Nat → Prop} {y pc : Nat} {als st : List AV} {w : Mem} {cc : ByteArray}
theorem SZ.pop {H0 : Heap} {ls : Array Slot} {H : Heap} {locs : List Loc} {v : AV} (h : SZ ad D cT A y H0 ls als (v :: st) w H locs) : okV v ∧ SZ ad D cT A y H0 ls als st w H locs := by
  obtain ⟨h1, h2, h3, h4⟩ := h
  exact ⟨h3 v List.mem_cons_self, h1, h2, fun u hu => h3 u (List.mem_cons_of_mem _ hu), h4⟩
theorem SZ.push {H0 : Heap} {ls : Array Slot} {H : Heap} {locs : List Loc} {v : AV} (h : SZ ad D cT A y H0 ls als st w H locs) (hv : okV v) : SZ ad D cT A y H0 ls als (v :: st) w H locs := by
  obtain ⟨h1, h2, h3, h4⟩ := h
  exact ⟨h1, h2, fun u hu => by rcases List.mem_cons.mp hu with rfl | q; exact hv; exact h3 u q, h4⟩
theorem SZ.store {H0 : Heap} {ls ls' : Array Slot} {H : Heap} {locs : List Loc} {v : AV} {i : Nat} (h : SZ ad D cT A y H0 ls als st w H locs) (hi : i ≠ mLg y + 1) (hv : v.1 < 2) (ho : okV v)
    (h' : lv_has ls' (mL y) ((i, cV ad v) :: (lvOf ad als).filter (fun q => !(q.1 == i) && !(q.1 + 1 == i && q.2.category == 2)))) : SZ ad D cT A y H0 ls' (als.set i v) st w H locs := by
  obtain ⟨h1, h2, h3⟩ := h
  exact ⟨h1.set hi hv h', ok_set h2 ho, h3⟩
theorem Wz.use {pc' : Nat} {ls : Array Slot} {H : Heap} {locs : List Loc} {rs : List Value} (k : Wz p l e R s m args below meth c Q ad D cT A y pc' als st w) (h : SZ ad D cT A y s.heap ls als st w H locs) (he : st.map (cV ad) = rs) : W p l e R s m args below meth c H locs 0 0 Q (F0 m pc' ls rs) := he ▸ k ls H locs h
-- constants and locals
theorem z_iconst (hx : p.tables.exec = Jvm.exec) (hb : c.code = cc) {n : Int} (hd : decode cc pc = .ok (.iconst n, 1)) (k : Wz p l e R s m args below meth c Q ad D cT A y (pc + 1) als (aI (i32 n).toInt :: st) w) : Wz p l e R s m args below meth c Q ad D cT A y pc als st w := fun ls H locs h =>
  lv_iconst hx hb hd rfl (k.use (h.push (okV_I (i32_in _))) (by rw [List.map_cons, cV_I, i32_of]; rfl))
theorem z_bipush (hx : p.tables.exec = Jvm.exec) (hb : c.code = cc) {n : Int} (hd : decode cc pc = .ok (.bipush n, 2)) (k : Wz p l e R s m args below meth c Q ad D cT A y (pc + 2) als (aI (Int8.ofInt n).toInt :: st) w) : Wz p l e R s m args below meth c Q ad D cT A y pc als st w := fun ls H locs h =>
  lv_bipush hx hb hd rfl (k.use (h.push (okV_I (i8_in _))) (by rw [List.map_cons, cV_I, i8_back]))
theorem z_sipush (hx : p.tables.exec = Jvm.exec) (hb : c.code = cc) {n : Int} (hd : decode cc pc = .ok (.sipush n, 3)) (k : Wz p l e R s m args below meth c Q ad D cT A y (pc + 3) als (aI (Int16.ofInt n).toInt :: st) w) : Wz p l e R s m args below meth c Q ad D cT A y pc als st w := fun ls H locs h =>
  lv_sipush hx hb hd rfl (k.use (h.push (okV_I (i16_in _))) (by rw [List.map_cons, cV_I, i16_back]))
theorem z_ldc (hx : p.tables.exec = Jvm.exec) (hb : c.code = cc) {own : String} {idx : Nat} {v : Int} (hown : s.vm.findClass own = some m.cls) (hc : (Jvm.Cond.constant own idx (i32 v)).before args s = true) (hv : (i32 v).toInt = v) (hd : decode cc pc = .ok (.ldc idx, 2)) (k : Wz p l e R s m args below meth c Q ad D cT A y (pc + 2) als (aI v :: st) w) : Wz p l e R s m args below meth c Q ad D cT A y pc als st w := fun ls H locs h =>
  lv_ldc hx hb hown hc hd (k.use (h.push (okV_I (hv ▸ i32_in _))) (by rw [List.map_cons, cV_I]))
theorem z_iload_n (hx : p.tables.exec = Jvm.exec) (hb : c.code = cc) {i : Fin 4} {z : Int} (hd : decode cc pc = .ok (.iload_n i, 1)) (hg : als[(i : Nat)]? = some (0, z)) (k : Wz p l e R s m args below meth c Q ad D cT A y (pc + 1) als (aI z :: st) w) : Wz p l e R s m args below meth c Q ad D cT A y pc als st w := fun ls H locs h =>
  lv_iload_n hx hb hd rfl ((h.1.2.2.2 i _ hg).1 (show (0 : Nat) < 2 by decide)) (k.use (h.push (okV_I (h.2.1 _ (List.mem_of_getElem? hg) rfl))) rfl)
theorem z_iload (hx : p.tables.exec = Jvm.exec) (hb : c.code = cc) {i : Nat} {z : Int} (hd : decode cc pc = .ok (.iload i, 2)) (hg : als[i]? = some (0, z)) (k : Wz p l e R s m args below meth c Q ad D cT A y (pc + 2) als (aI z :: st) w) : Wz p l e R s m args below meth c Q ad D cT A y pc als st w := fun ls H locs h =>
  lv_iload hx hb hd ((h.1.2.2.2 i _ hg).1 (show (0 : Nat) < 2 by decide)) (k.use (h.push (okV_I (h.2.1 _ (List.mem_of_getElem? hg) rfl))) rfl)
theorem z_aload_n (hx : p.tables.exec = Jvm.exec) (hb : c.code = cc) {i : Fin 4} {z : Int} (hd : decode cc pc = .ok (.aload_n i, 1)) (hg : als[(i : Nat)]? = some (1, z)) (k : Wz p l e R s m args below meth c Q ad D cT A y (pc + 1) als ((1, z) :: st) w) : Wz p l e R s m args below meth c Q ad D cT A y pc als st w := fun ls H locs h =>
  lv_aload_n hx hb hd rfl ((h.1.2.2.2 i _ hg).1 (show (1 : Nat) < 2 by decide)) (k.use (h.push (okV_1 _)) rfl)
theorem z_aload (hx : p.tables.exec = Jvm.exec) (hb : c.code = cc) {i : Nat} {z : Int} (hd : decode cc pc = .ok (.aload i, 2)) (hg : als[i]? = some (1, z)) (k : Wz p l e R s m args below meth c Q ad D cT A y (pc + 2) als ((1, z) :: st) w) : Wz p l e R s m args below meth c Q ad D cT A y pc als st w := fun ls H locs h =>
  lv_aload hx hb hd ((h.1.2.2.2 i _ hg).1 (show (1 : Nat) < 2 by decide)) (k.use (h.push (okV_1 _)) rfl)
theorem z_lload_n (hx : p.tables.exec = Jvm.exec) (hb : c.code = cc) {i : Fin 4} {z : Int} (hd : decode cc pc = .ok (.lload_n i, 1)) (hg : als[(i : Nat)]? = some (2, z)) (k : Wz p l e R s m args below meth c Q ad D cT A y (pc + 1) als ((2, z) :: st) w) : Wz p l e R s m args below meth c Q ad D cT A y pc als st w := fun ls H locs h =>
  lv_lload_n hx hb hd rfl ((h.1.2.2.2 i _ hg).2 rfl).2 (k.use (h.push (okV_2 _)) rfl)
theorem z_istore_n (hx : p.tables.exec = Jvm.exec) (hb : c.code = cc) {i : Fin 4} {z : Int} (hd : decode cc pc = .ok (.istore_n i, 1)) (hi : (i : Nat) < als.length ∧ (i : Nat) ≠ mLg y ∧ (i : Nat) ≠ mLg y + 1) (k : Wz p l e R s m args below meth c Q ad D cT A y (pc + 1) (als.set i (aI z)) st w) : Wz p l e R s m args below meth c Q ad D cT A y pc als ((0, z) :: st) w := fun ls H locs h =>
  lv_istore_n hx hb hd rfl h.1.has (by rw [← h.1.2.1]; exact hi.1) rfl (fun ls' hl' => k.use ((h.pop.2).store hi.2.2 (show (0 : Nat) < 2 by decide) (okV_I (h.pop.1 rfl)) hl') rfl)
theorem z_istore (hx : p.tables.exec = Jvm.exec) (hb : c.code = cc) {i : Nat} {z : Int} (hd : decode cc pc = .ok (.istore i, 2)) (hi : i < als.length ∧ i ≠ mLg y ∧ i ≠ mLg y + 1) (k : Wz p l e R s m args below meth c Q ad D cT A y (pc + 2) (als.set i (aI z)) st w) : Wz p l e R s m args below meth c Q ad D cT A y pc als ((0, z) :: st) w := fun ls H locs h =>
  lv_istore hx hb hd h.1.has (by rw [← h.1.2.1]; exact hi.1) rfl (fun ls' hl' => k.use ((h.pop.2).store hi.2.2 (show (0 : Nat) < 2 by decide) (okV_I (h.pop.1 rfl)) hl') rfl)
theorem z_astore_n (hx : p.tables.exec = Jvm.exec) (hb : c.code = cc) {i : Fin 4} {r : Nat} (hd : decode cc pc = .ok (.astore_n i, 1)) (hi : (i : Nat) < als.length ∧ (i : Nat) ≠ mLg y ∧ (i : Nat) ≠ mLg y + 1) (k : Wz p l e R s m args below meth c Q ad D cT A y (pc + 1) (als.set i (aR r)) st w) : Wz p l e R s m args below meth c Q ad D cT A y pc als (aR r :: st) w := fun ls H locs h =>
  lv_astore_n hx hb hd rfl h.1.has (by rw [← h.1.2.1]; exact hi.1) rfl (fun ls' hl' => k.use ((h.pop.2).store hi.2.2 (by show (1 : Nat) < 2; decide) (okV_R r) hl') rfl)
theorem z_iinc (hx : p.tables.exec = Jvm.exec) (hb : c.code = cc) {i : Nat} {z n : Int} (hd : decode cc pc = .ok (.iinc i n, 3)) (hg : als[i]? = some (0, z)) (hi : i < als.length ∧ i ≠ mLg y ∧ i ≠ mLg y + 1) (k : Wz p l e R s m args below meth c Q ad D cT A y (pc + 3) (als.set i (aI (wrap (z + n)))) st w) : Wz p l e R s m args below meth c Q ad D cT A y pc als st w := fun ls H locs h => by
  obtain ⟨q, hq⟩ := List.getElem?_of_mem (lvOf_mem (ad := ad).mpr ⟨_, hg, (show (0 : Nat) < 3 by decide), rfl⟩)
  refine lv_iinc (v := i32 (wrap (z + n))) hx hb hd h.1.has hq (by rw [i32_wrap, ← i32_add]; rfl) (by rw [← h.1.2.1]; exact hi.1) rfl (fun ls' hl' => k.use (h.store hi.2.2 (show (0 : Nat) < 2 by decide) (okV_I (wrap_in _)) hl') rfl)
theorem z_iadd (hx : p.tables.exec = Jvm.exec) (hb : c.code = cc) {a b : Int} (hd : decode cc pc = .ok (.iadd, 1)) (k : Wz p l e R s m args below meth c Q ad D cT A y (pc + 1) als (aI (wrap (a + b)) :: st) w) : Wz p l e R s m args below meth c Q ad D cT A y pc als ((0, b) :: (0, a) :: st) w := fun ls H locs h =>
  lv_iadd hx hb hd (k.use (h.pop.2.pop.2.push (okV_I (wrap_in _))) (by rw [List.map_cons, cV_I, i32_wrap, ← i32_add]))
theorem z_isub (hx : p.tables.exec = Jvm.exec) (hb : c.code = cc) {a b : Int} (hd : decode cc pc = .ok (.isub, 1)) (k : Wz p l e R s m args below meth c Q ad D cT A y (pc + 1) als (aI (wrap (a - b)) :: st) w) : Wz p l e R s m args below meth c Q ad D cT A y pc als ((0, b) :: (0, a) :: st) w := fun ls H locs h =>
  lv_isub hx hb hd (k.use (h.pop.2.pop.2.push (okV_I (wrap_in _))) (by rw [List.map_cons, cV_I, i32_wrap, ← i32_sub]))
theorem z_imul (hx : p.tables.exec = Jvm.exec) (hb : c.code = cc) {a b : Int} (hd : decode cc pc = .ok (.imul, 1)) (k : Wz p l e R s m args below meth c Q ad D cT A y (pc + 1) als (aI (wrap (a * b)) :: st) w) : Wz p l e R s m args below meth c Q ad D cT A y pc als ((0, b) :: (0, a) :: st) w := fun ls H locs h =>
  lv_imul hx hb hd (k.use (h.pop.2.pop.2.push (okV_I (wrap_in _))) (by rw [List.map_cons, cV_I, i32_wrap, ← i32_mul]))
theorem z_iand (hx : p.tables.exec = Jvm.exec) (hb : c.code = cc) {a b : Int} (hd : decode cc pc = .ok (.iand, 1)) (k : Wz p l e R s m args below meth c Q ad D cT A y (pc + 1) als (aI (iand a b) :: st) w) : Wz p l e R s m args below meth c Q ad D cT A y pc als ((0, b) :: (0, a) :: st) w := fun ls H locs h =>
  lv_iand hx hb hd (k.use (h.pop.2.pop.2.push (okV_I (by rw [iand_def]; exact i32_in _))) (by rw [List.map_cons, cV_I]; rw [iand_def, i32_of]))
theorem z_ior (hx : p.tables.exec = Jvm.exec) (hb : c.code = cc) {a b : Int} (hd : decode cc pc = .ok (.ior, 1)) (k : Wz p l e R s m args below meth c Q ad D cT A y (pc + 1) als (aI (ior a b) :: st) w) : Wz p l e R s m args below meth c Q ad D cT A y pc als ((0, b) :: (0, a) :: st) w := fun ls H locs h =>
  lv_ior hx hb hd (k.use (h.pop.2.pop.2.push (okV_I (by rw [ior_def]; exact i32_in _))) (by rw [List.map_cons, cV_I]; rw [ior_def, i32_of]))
theorem z_ixor (hx : p.tables.exec = Jvm.exec) (hb : c.code = cc) {a b : Int} (hd : decode cc pc = .ok (.ixor, 1)) (k : Wz p l e R s m args below meth c Q ad D cT A y (pc + 1) als (aI (ixor a b) :: st) w) : Wz p l e R s m args below meth c Q ad D cT A y pc als ((0, b) :: (0, a) :: st) w := fun ls H locs h =>
  lv_ixor hx hb hd (k.use (h.pop.2.pop.2.push (okV_I (by rw [ixor_def]; exact i32_in _))) (by rw [List.map_cons, cV_I]; rw [ixor_def, i32_of]))
theorem z_ishl (hx : p.tables.exec = Jvm.exec) (hb : c.code = cc) {a b : Int} (hd : decode cc pc = .ok (.ishl, 1)) (k : Wz p l e R s m args below meth c Q ad D cT A y (pc + 1) als (aI (ishl a b) :: st) w) : Wz p l e R s m args below meth c Q ad D cT A y pc als ((0, b) :: (0, a) :: st) w := fun ls H locs h =>
  lv_ishl hx hb hd (k.use (h.pop.2.pop.2.push (okV_I (by rw [ishl_def]; exact i32_in _))) (by rw [List.map_cons, cV_I]; rw [ishl_def, i32_of]))
theorem z_ishr (hx : p.tables.exec = Jvm.exec) (hb : c.code = cc) {a b : Int} (hd : decode cc pc = .ok (.ishr, 1)) (k : Wz p l e R s m args below meth c Q ad D cT A y (pc + 1) als (aI (ishr a b) :: st) w) : Wz p l e R s m args below meth c Q ad D cT A y pc als ((0, b) :: (0, a) :: st) w := fun ls H locs h =>
  lv_ishr hx hb hd (k.use (h.pop.2.pop.2.push (okV_I (by rw [ishr_def]; exact i32_in _))) (by rw [List.map_cons, cV_I]; rw [ishr_def, i32_of]))
theorem z_irem (hx : p.tables.exec = Jvm.exec) (hb : c.code = cc) {a b : Int} (hd : decode cc pc = .ok (.irem, 1)) (h0 : 0 ≤ a ∧ 0 < b) (k : Wz p l e R s m args below meth c Q ad D cT A y (pc + 1) als (aI (a % b) :: st) w) : Wz p l e R s m args below meth c Q ad D cT A y pc als ((0, b) :: (0, a) :: st) w := fun ls H locs h => by
  have ib : inI b := h.pop.1 rfl
  have ia : inI a := h.pop.2.pop.1 rfl
  refine lv_irem hx hb hd (fun q => ?_) (k.use (h.pop.2.pop.2.push (okV_I ?_)) (by rw [List.map_cons, cV_I, ← i32_rem ia ib h0.1 h0.2]))
  · have := (i32_eq ib inI_0).mp q
    omega
  · unfold inI at *
    have h1 := Int.emod_nonneg a (by omega : b ≠ 0)
    have h2 := Int.emod_lt_of_pos a h0.2
    omega
theorem z_lushr (hx : p.tables.exec = Jvm.exec) (hb : c.code = cc) {a b : Int} (hd : decode cc pc = .ok (.lushr, 1)) (k : Wz p l e R s m args below meth c Q ad D cT A y (pc + 1) als (aL (lushrZ a b) :: st) w) : Wz p l e R s m args below meth c Q ad D cT A y pc als ((0, b) :: (2, a) :: st) w := fun ls H locs h =>
  lv_lushr hx hb hd rfl (k.use (h.pop.2.pop.2.push (okV_2 _)) (by rw [List.map_cons]; show Value.long (Int64.ofInt (lushrZ a b)) :: _ = _; rw [lushrZ_def, Int64.ofInt_toInt]))
theorem z_lshr (hx : p.tables.exec = Jvm.exec) (hb : c.code = cc) {a b : Int} (hd : decode cc pc = .ok (.lshr, 1)) (k : Wz p l e R s m args below meth c Q ad D cT A y (pc + 1) als (aL (lshrZ a b) :: st) w) : Wz p l e R s m args below meth c Q ad D cT A y pc als ((0, b) :: (2, a) :: st) w := fun ls H locs h =>
  lv_lshr hx hb hd rfl (k.use (h.pop.2.pop.2.push (okV_2 _)) (by rw [List.map_cons]; show Value.long (Int64.ofInt (lshrZ a b)) :: _ = _; rw [lshrZ_def, Int64.ofInt_toInt]))
theorem z_dconst (hx : p.tables.exec = Jvm.exec) (hb : c.code = cc) (hd : decode cc pc = .ok (.dconst 0, 1)) (k : Wz p l e R s m args below meth c Q ad D cT A y (pc + 1) als (aD dz0 :: st) w) : Wz p l e R s m args below meth c Q ad D cT A y pc als st w := fun ls H locs h =>
  lv_dconst0 hx hb hd (k.use (h.push (okV_3 _)) (by rw [List.map_cons]; show Value.double (dU dz0) :: _ = _; rw [dz0_def, dU_of]))
theorem z_i2d (hx : p.tables.exec = Jvm.exec) (hb : c.code = cc) {a : Int} (hd : decode cc pc = .ok (.i2d, 1)) (k : Wz p l e R s m args below meth c Q ad D cT A y (pc + 1) als (aD (i2dZ a) :: st) w) : Wz p l e R s m args below meth c Q ad D cT A y pc als ((0, a) :: st) w := fun ls H locs h =>
  lv_i2d hx hb hd (k.use (h.pop.2.push (okV_3 _)) (by rw [List.map_cons]; show Value.double (dU (i2dZ a)) :: _ = _; rw [i2dZ_def, dU_of]))
theorem z_ddiv (hx : p.tables.exec = Jvm.exec) (hb : c.code = cc) {a b : Int} (hd : decode cc pc = .ok (.ddiv, 1)) (hn : dnum a b) (k : Wz p l e R s m args below meth c Q ad D cT A y (pc + 1) als (aD (ddivZ a b) :: st) w) : Wz p l e R s m args below meth c Q ad D cT A y pc als ((3, b) :: (3, a) :: st) w := fun ls H locs h =>
  lv_ddiv hx hb hd hn (k.use (h.pop.2.pop.2.push (okV_3 _)) (by rw [List.map_cons]; show Value.double (dU (ddivZ a b)) :: _ = _; rw [ddivZ_def, dU_of]))
theorem z_l2i (hx : p.tables.exec = Jvm.exec) (hb : c.code = cc) {a : Int} (hd : decode cc pc = .ok (.l2i, 1)) (k : Wz p l e R s m args below meth c Q ad D cT A y (pc + 1) als (aI (l2iZ a) :: st) w) : Wz p l e R s m args below meth c Q ad D cT A y pc als ((2, a) :: st) w := fun ls H locs h =>
  lv_l2i hx hb hd rfl (k.use (h.pop.2.push (okV_I (by rw [l2iZ_def]; exact i32_in _))) (by rw [List.map_cons, cV_I]; rw [l2iZ_def, i32_of]))
theorem i2c_of (a : Int) : ((i32 a).toUInt32 % 65536).toInt32 = i32 (i2cZ a) := by
  rw [pk_char]
  have e : (i32 a).toBitVec.toNat = (a % 4294967296).toNat := by
    show (BitVec.ofInt 32 a).toNat = _
    rw [BitVec.toNat_ofInt]
    rfl
  rw [e, i2cZ_def]
  rw [← i32_nat]
  congr 1
  omega
theorem z_i2c (hx : p.tables.exec = Jvm.exec) (hb : c.code = cc) {a : Int} (hd : decode cc pc = .ok (.i2c, 1)) (k : Wz p l e R s m args below meth c Q ad D cT A y (pc + 1) als (aI (i2cZ a) :: st) w) : Wz p l e R s m args below meth c Q ad D cT A y pc als ((0, a) :: st) w := fun ls H locs h =>
  lv_i2c hx hb hd (i2c_of a) (k.use (h.pop.2.push (okV_I (by rw [i2cZ_def]; unfold inI; omega))) (by rw [List.map_cons, cV_I]))
theorem z_pop (hx : p.tables.exec = Jvm.exec) (hb : c.code = cc) {a : Int} (hd : decode cc pc = .ok (.pop, 1)) (k : Wz p l e R s m args below meth c Q ad D cT A y (pc + 1) als st w) : Wz p l e R s m args below meth c Q ad D cT A y pc als ((0, a) :: st) w := fun ls H locs h =>
  lv_pop hx hb hd rfl (k.use h.pop.2 rfl)
theorem z_dup0 (hx : p.tables.exec = Jvm.exec) (hb : c.code = cc) {a : Int} (hd : decode cc pc = .ok (.dup, 1)) (k : Wz p l e R s m args below meth c Q ad D cT A y (pc + 1) als ((0, a) :: (0, a) :: st) w) : Wz p l e R s m args below meth c Q ad D cT A y pc als ((0, a) :: st) w := fun ls H locs h =>
  lv_dup hx hb hd rfl (k.use (h.push h.pop.1) rfl)
theorem z_dup1 (hx : p.tables.exec = Jvm.exec) (hb : c.code = cc) {a : Int} (hd : decode cc pc = .ok (.dup, 1)) (k : Wz p l e R s m args below meth c Q ad D cT A y (pc + 1) als ((1, a) :: (1, a) :: st) w) : Wz p l e R s m args below meth c Q ad D cT A y pc als ((1, a) :: st) w := fun ls H locs h =>
  lv_dup hx hb hd rfl (k.use (h.push h.pop.1) rfl)
theorem z_dup2 (hx : p.tables.exec = Jvm.exec) (hb : c.code = cc) {a b : Int} (hd : decode cc pc = .ok (.dup2, 1)) (k : Wz p l e R s m args below meth c Q ad D cT A y (pc + 1) als ((0, a) :: (1, b) :: (0, a) :: (1, b) :: st) w) : Wz p l e R s m args below meth c Q ad D cT A y pc als ((0, a) :: (1, b) :: st) w := fun ls H locs h =>
  lv_dup2_11 hx hb hd rfl rfl (k.use ((h.push h.pop.2.pop.1).push h.pop.1) rfl)
theorem tg_of {o : Int} (h : 0 ≤ (pc : Int) + o) : (pc : Int) + o = ((tg pc o : Nat) : Int) := (Int.toNat_of_nonneg h).symm
theorem z_goto (hx : p.tables.exec = Jvm.exec) (hb : c.code = cc) {o : Int} (hd : decode cc pc = .ok (.goto o, 3)) (ho : 0 ≤ (pc : Int) + o) (k : Wz p l e R s m args below meth c Q ad D cT A y (tg pc o) als st w) : Wz p l e R s m args below meth c Q ad D cT A y pc als st w := fun ls H locs h =>
  lv_goto hx hb hd (tg_of ho) (k.use h rfl)
theorem z_if_eq (hx : p.tables.exec = Jvm.exec) (hb : c.code = cc) {a o : Int} (hd : decode cc pc = .ok ((.ifCond .eq o), 3)) (ho : 0 ≤ (pc : Int) + o) (kp : a = 0 → Wz p l e R s m args below meth c Q ad D cT A y (tg pc o) als st w) (kn : ¬ a = 0 → Wz p l e R s m args below meth c Q ad D cT A y (pc + 3) als st w) : Wz p l e R s m args below meth c Q ad D cT A y pc als ((0, a) :: st) w := fun ls H locs h => by
  have ia : inI a := h.pop.1 rfl
  have ib : inI (0 : Int) := inI_0
  have h2 := h.pop.2
  exact lv_if_eq hx hb hd (tg_of ho) (fun q => (kp ((i32_eq ia ib).mp q)).use h2 rfl) (fun q => (kn (fun z => q ((i32_eq ia ib).mpr z))).use h2 rfl)
theorem z_if_ne (hx : p.tables.exec = Jvm.exec) (hb : c.code = cc) {a o : Int} (hd : decode cc pc = .ok ((.ifCond .ne o), 3)) (ho : 0 ≤ (pc : Int) + o) (kp : a = 0 → Wz p l e R s m args below meth c Q ad D cT A y (pc + 3) als st w) (kn : ¬ a = 0 → Wz p l e R s m args below meth c Q ad D cT A y (tg pc o) als st w) : Wz p l e R s m args below meth c Q ad D cT A y pc als ((0, a) :: st) w := fun ls H locs h => by
  have ia : inI a := h.pop.1 rfl
  have ib : inI (0 : Int) := inI_0
  have h2 := h.pop.2
  exact lv_if_ne hx hb hd (tg_of ho) (fun q => (kn (fun z => q ((i32_eq ia ib).mpr z))).use h2 rfl) (fun q => (kp ((i32_eq ia ib).mp q)).use h2 rfl)
theorem z_if_lt (hx : p.tables.exec = Jvm.exec) (hb : c.code = cc) {a o : Int} (hd : decode cc pc = .ok ((.ifCond .lt o), 3)) (ho : 0 ≤ (pc : Int) + o) (kp : a < 0 → Wz p l e R s m args below meth c Q ad D cT A y (tg pc o) als st w) (kn : ¬ a < 0 → Wz p l e R s m args below meth c Q ad D cT A y (pc + 3) als st w) : Wz p l e R s m args below meth c Q ad D cT A y pc als ((0, a) :: st) w := fun ls H locs h => by
  have ia : inI a := h.pop.1 rfl
  have ib : inI (0 : Int) := inI_0
  have h2 := h.pop.2
  exact lv_if_lt hx hb hd (tg_of ho) (fun q => (kp ((i32_lt ia ib).mp q)).use h2 rfl) (fun q => (kn (fun z => q ((i32_lt ia ib).mpr z))).use h2 rfl)
theorem z_if_ge (hx : p.tables.exec = Jvm.exec) (hb : c.code = cc) {a o : Int} (hd : decode cc pc = .ok ((.ifCond .ge o), 3)) (ho : 0 ≤ (pc : Int) + o) (kp : a < 0 → Wz p l e R s m args below meth c Q ad D cT A y (pc + 3) als st w) (kn : ¬ a < 0 → Wz p l e R s m args below meth c Q ad D cT A y (tg pc o) als st w) : Wz p l e R s m args below meth c Q ad D cT A y pc als ((0, a) :: st) w := fun ls H locs h => by
  have ia : inI a := h.pop.1 rfl
  have ib : inI (0 : Int) := inI_0
  have h2 := h.pop.2
  exact lv_if_ge hx hb hd (tg_of ho) (fun q => (kn (Int.not_lt.mpr ((i32_le ib ia).mp q))).use h2 rfl) (fun q => (kp (Int.not_le.mp (fun z => q ((i32_le ib ia).mpr z)))).use h2 rfl)
theorem z_if_gt (hx : p.tables.exec = Jvm.exec) (hb : c.code = cc) {a o : Int} (hd : decode cc pc = .ok ((.ifCond .gt o), 3)) (ho : 0 ≤ (pc : Int) + o) (kp : 0 < a → Wz p l e R s m args below meth c Q ad D cT A y (tg pc o) als st w) (kn : ¬ 0 < a → Wz p l e R s m args below meth c Q ad D cT A y (pc + 3) als st w) : Wz p l e R s m args below meth c Q ad D cT A y pc als ((0, a) :: st) w := fun ls H locs h => by
  have ia : inI a := h.pop.1 rfl
  have ib : inI (0 : Int) := inI_0
  have h2 := h.pop.2
  exact lv_if_gt hx hb hd (tg_of ho) (fun q => (kp ((i32_lt ib ia).mp q)).use h2 rfl) (fun q => (kn (fun z => q ((i32_lt ib ia).mpr z))).use h2 rfl)
theorem z_if_le (hx : p.tables.exec = Jvm.exec) (hb : c.code = cc) {a o : Int} (hd : decode cc pc = .ok ((.ifCond .le o), 3)) (ho : 0 ≤ (pc : Int) + o) (kp : 0 < a → Wz p l e R s m args below meth c Q ad D cT A y (pc + 3) als st w) (kn : ¬ 0 < a → Wz p l e R s m args below meth c Q ad D cT A y (tg pc o) als st w) : Wz p l e R s m args below meth c Q ad D cT A y pc als ((0, a) :: st) w := fun ls H locs h => by
  have ia : inI a := h.pop.1 rfl
  have ib : inI (0 : Int) := inI_0
  have h2 := h.pop.2
  exact lv_if_le hx hb hd (tg_of ho) (fun q => (kn (Int.not_lt.mpr ((i32_le ia ib).mp q))).use h2 rfl) (fun q => (kp (Int.not_le.mp (fun z => q ((i32_le ia ib).mpr z)))).use h2 rfl)
theorem z_icmp_eq (hx : p.tables.exec = Jvm.exec) (hb : c.code = cc) {a b o : Int} (hd : decode cc pc = .ok ((.if_icmp .eq o), 3)) (ho : 0 ≤ (pc : Int) + o) (kp : a = b → Wz p l e R s m args below meth c Q ad D cT A y (tg pc o) als st w) (kn : ¬ a = b → Wz p l e R s m args below meth c Q ad D cT A y (pc + 3) als st w) : Wz p l e R s m args below meth c Q ad D cT A y pc als ((0, b) :: (0, a) :: st) w := fun ls H locs h => by
  have ib : inI b := h.pop.1 rfl
  have ia : inI a := h.pop.2.pop.1 rfl
  have h2 := h.pop.2.pop.2
  exact lv_icmp_eq hx hb hd (tg_of ho) (fun q => (kp ((i32_eq ia ib).mp q)).use h2 rfl) (fun q => (kn (fun z => q ((i32_eq ia ib).mpr z))).use h2 rfl)
theorem z_icmp_ne (hx : p.tables.exec = Jvm.exec) (hb : c.code = cc) {a b o : Int} (hd : decode cc pc = .ok ((.if_icmp .ne o), 3)) (ho : 0 ≤ (pc : Int) + o) (kp : a = b → Wz p l e R s m args below meth c Q ad D cT A y (pc + 3) als st w) (kn : ¬ a = b → Wz p l e R s m args below meth c Q ad D cT A y (tg pc o) als st w) : Wz p l e R s m args below meth c Q ad D cT A y pc als ((0, b) :: (0, a) :: st) w := fun ls H locs h => by
  have ib : inI b := h.pop.1 rfl
  have ia : inI a := h.pop.2.pop.1 rfl
  have h2 := h.pop.2.pop.2
  exact lv_icmp_ne hx hb hd (tg_of ho) (fun q => (kn (fun z => q ((i32_eq ia ib).mpr z))).use h2 rfl) (fun q => (kp ((i32_eq ia ib).mp q)).use h2 rfl)
theorem z_icmp_lt (hx : p.tables.exec = Jvm.exec) (hb : c.code = cc) {a b o : Int} (hd : decode cc pc = .ok ((.if_icmp .lt o), 3)) (ho : 0 ≤ (pc : Int) + o) (kp : a < b → Wz p l e R s m args below meth c Q ad D cT A y (tg pc o) als st w) (kn : ¬ a < b → Wz p l e R s m args below meth c Q ad D cT A y (pc + 3) als st w) : Wz p l e R s m args below meth c Q ad D cT A y pc als ((0, b) :: (0, a) :: st) w := fun ls H locs h => by
  have ib : inI b := h.pop.1 rfl
  have ia : inI a := h.pop.2.pop.1 rfl
  have h2 := h.pop.2.pop.2
  exact lv_icmp_lt hx hb hd (tg_of ho) (fun q => (kp ((i32_lt ia ib).mp q)).use h2 rfl) (fun q => (kn (fun z => q ((i32_lt ia ib).mpr z))).use h2 rfl)
theorem z_icmp_ge (hx : p.tables.exec = Jvm.exec) (hb : c.code = cc) {a b o : Int} (hd : decode cc pc = .ok ((.if_icmp .ge o), 3)) (ho : 0 ≤ (pc : Int) + o) (kp : a < b → Wz p l e R s m args below meth c Q ad D cT A y (pc + 3) als st w) (kn : ¬ a < b → Wz p l e R s m args below meth c Q ad D cT A y (tg pc o) als st w) : Wz p l e R s m args below meth c Q ad D cT A y pc als ((0, b) :: (0, a) :: st) w := fun ls H locs h => by
  have ib : inI b := h.pop.1 rfl
  have ia : inI a := h.pop.2.pop.1 rfl
  have h2 := h.pop.2.pop.2
  exact lv_icmp_ge hx hb hd (tg_of ho) (fun q => (kn (Int.not_lt.mpr ((i32_le ib ia).mp q))).use h2 rfl) (fun q => (kp (Int.not_le.mp (fun z => q ((i32_le ib ia).mpr z)))).use h2 rfl)
theorem z_icmp_gt (hx : p.tables.exec = Jvm.exec) (hb : c.code = cc) {a b o : Int} (hd : decode cc pc = .ok ((.if_icmp .gt o), 3)) (ho : 0 ≤ (pc : Int) + o) (kp : b < a → Wz p l e R s m args below meth c Q ad D cT A y (tg pc o) als st w) (kn : ¬ b < a → Wz p l e R s m args below meth c Q ad D cT A y (pc + 3) als st w) : Wz p l e R s m args below meth c Q ad D cT A y pc als ((0, b) :: (0, a) :: st) w := fun ls H locs h => by
  have ib : inI b := h.pop.1 rfl
  have ia : inI a := h.pop.2.pop.1 rfl
  have h2 := h.pop.2.pop.2
  exact lv_icmp_gt hx hb hd (tg_of ho) (fun q => (kp ((i32_lt ib ia).mp q)).use h2 rfl) (fun q => (kn (fun z => q ((i32_lt ib ia).mpr z))).use h2 rfl)
theorem z_icmp_le (hx : p.tables.exec = Jvm.exec) (hb : c.code = cc) {a b o : Int} (hd : decode cc pc = .ok ((.if_icmp .le o), 3)) (ho : 0 ≤ (pc : Int) + o) (kp : b < a → Wz p l e R s m args below meth c Q ad D cT A y (pc + 3) als st w) (kn : ¬ b < a → Wz p l e R s m args below meth c Q ad D cT A y (tg pc o) als st w) : Wz p l e R s m args below meth c Q ad D cT A y pc als ((0, b) :: (0, a) :: st) w := fun ls H locs h => by
  have ib : inI b := h.pop.1 rfl
  have ia : inI a := h.pop.2.pop.1 rfl
  have h2 := h.pop.2.pop.2
  exact lv_icmp_le hx hb hd (tg_of ho) (fun q => (kn (Int.not_lt.mpr ((i32_le ia ib).mp q))).use h2 rfl) (fun q => (kp (Int.not_le.mp (fun z => q ((i32_le ia ib).mpr z)))).use h2 rfl)
end ZS
