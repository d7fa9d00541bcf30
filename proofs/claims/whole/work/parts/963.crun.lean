/-! a run of a constructor -/
theorem isR_s {v : AV} (h : isR v = true) : ∃ z, v = (1, z) := by
  obtain ⟨a, b⟩ := v
  have : a = 1 := by simpa [isR] using h
  exact ⟨b, by rw [this]⟩
section CR
variable {p : Program} {l : Launch} {e : Env} {R : Room} {s : State} {m : MethodId} {args : Array Value} {below : List Frame} {meth : Method} {c : Code} {Q : State → Prop}
variable {B : Nat} {D : va_G} {cT : Nat → ClassId} {y pc nc ns d : Nat} {lv st : List AV} {F : CFl} {Ts : List Cond} {C : Nat → List AV → CFl → Option CFl}
theorem catB {rest : List AV} (h : rest.length ≤ 4) : ((rest.map (cV (adB B))).map fun v => v.category).sum ≤ 8 := cats (ad := adB B) h
theorem c_obj (C0 : CXZ p s m args meth c Ts y (cB y) (cL y)) (hR : 1 ≤ R.frames ∧ 40 ≤ R.locals) {idx : Nat} {z : Int} (hl : CLm y idx 0) (hlen : st.length ≤ 4) (hd : decode (cB y) pc = .ok (.invokespecial idx, 3)) (k : Wc p l e R s m args below meth c Q B D cT (cL y) (pc + 3) lv st F nc ns) : Wc p l e R s m args below meth c Q B D cT (cL y) pc lv ((1, z) :: st) F nc ns := fun hn ls H locs h => by
  obtain ⟨hx0, hb, hml, hown, hts, hT⟩ := C0
  rcases hl with ⟨-, hl⟩ | ⟨j, hj, -⟩
  · refine W.objInit hx0 hb hown (hts _ (hT _ hl)) (hts _ (hT _ cob.1)) (hts _ (hT _ cob.2)) rfl (h.1.1.trans hml.symm) rfl hd hR.1 ?_ (k.use hn h rfl)
    have := catB (B := B) hlen
    show 2 * 0 + _ + 12 ≤ R.locals
    omega
  · omega
theorem c_call (C0 : CXZ p s m args meth c Ts y (cB y) (cL y)) (hK : KZ D cT s) (hN : NSC s) (hM : MAK cT s) (hBs : B ≤ s.heap.size) (hR : d + 1 ≤ R.frames ∧ 40 * (d + 1) ≤ R.locals) {idx j : Nat} {as rest : List AV} {F' : CFl} (hC : CND l C d) (hl : CLm y idx (j + 1)) (hst : st = as.reverse ++ rest) (hn1 : as.length = cNa j) (has : as.all isR = true) (hlen : rest.length ≤ 4) (hF : C j as F = some F') (hF2 : F'.length = F.length + cM j) (hc : nc + cM j ≤ R.cells) (hs : ns + sM j ≤ R.slots) (hd : decode (cB y) pc = .ok (.invokespecial idx, 3))
    (k : Wc p l e R s m args below meth c Q B D cT (cL y) (pc + 3) lv rest F' (nc + cM j) (ns + sM j)) : Wc p l e R s m args below meth c Q B D cT (cL y) pc lv st F nc ns := fun hn ls H locs h => by
  obtain ⟨hx0, hb, hml, hown, hts, hT⟩ := C0
  have h' := h
  obtain ⟨h1, h2, h3, h4⟩ := h'
  obtain ⟨k2, hk2, hj, hl⟩ : ∃ k, j + 1 = k + 1 ∧ k < 13 ∧ (Cond.methodLink (clsN y) idx (cN k) ∈ TBW ∨ Cond.methodLinkNest (clsN y) idx (cN k) "LowForge" ∈ nstC) := by
    rcases hl with ⟨z, -⟩ | z
    · omega
    · exact z
  obtain rfl : j = k2 := by omega
  obtain ⟨⟨m1, m2, m3⟩, m4, m5, m6, m7, m8⟩ := cfmAll j hj
  have hM0 := hC B D cT j as F F' hj hF
  obtain ⟨a0, as', rfl⟩ : ∃ a0 as', as = a0 :: as' := by
    cases as with
    | nil => simp only [List.length_nil] at hn1; omega
    | cons a t => exact ⟨a, t, rfl⟩
  simp only [List.all_cons, Bool.and_eq_true] at has
  obtain ⟨z0, rfl⟩ := isR_s has.1
  have hG : GoodIn Ts (wsC j) := fun w hw => by
    rcases List.mem_cons.mp hw with rfl | q
    · exact ⟨hT _ m1, Or.inl rfl⟩
    · exact ⟨hT _ q, goodW q⟩
  have hp : PreS s H (PcC B D cT F ((1, z0) :: as')) (.ref (adB B z0.toNat) :: as'.map (cV (adB B))) := ⟨pcC_blind, fun U hU hW => ⟨rfl, by rw [hU]; exact h2, by rw [hU]; exact h3, hK.moved hW, hN.moved hW, hM.moved hW.alike⟩⟩
  have hlen' : (as'.map (cV (adB B))).length = cNa j - 1 := by
    rw [List.length_map]
    simp only [List.length_cons] at hn1
    omega
  have hstk : st.map (cV (adB B)) = (as'.map (cV (adB B))).reverse ++ .ref (adB B z0.toNat) :: rest.map (cV (adB B)) := by
    rw [hst, List.map_append, List.map_reverse, List.map_cons, List.reverse_cons, List.append_assoc]
    rfl
  have hRl : (rmC j d).frames + 1 ≤ R.frames ∧ 8 + (cL j + 11) + (rmC j d).locals ≤ R.locals := ⟨hR.1, by show 8 + (cL j + 11) + 40 * d ≤ R.locals; omega⟩
  have hrun : va_Run p l e R s m args below meth c H locs nc ns (cM j) (sM j) (F0 m pc ls (st.map (cV (adB B)))) (rest.map (cV (adB B))) (QC B D cT F' (Value.ref (adB B z0.toNat) :: as'.map (cV (adB B))).toArray) (fun q => B ≤ q) := by
    rcases hl with hl | hl
    · exact va_runI ⟨hx0, hb, hml, hown, hts⟩ hM0 (cwI (cNa j - 1) hts hG rfl rfl rfl (hts _ (hT _ m3)) (hts _ (hT _ hl)) (hts _ (hT _ m2)) rfl m5 hRl) hp rfl hlen' h1.1 hstk (lv_room (catB hlen)) hd ⟨hc, hs⟩
    · exact va_runIN ⟨hx0, hb, hml, hown, hts⟩ hM0 ⟨va_cnB (cNa j - 1) hts hG rfl rfl rfl (hN _ hl) (hts _ (hT _ m3)) m5 hRl, rfl, hts _ (hT _ m2)⟩ hp rfl hlen' h1.1 hstk (lv_room (catB hlen)) hd ⟨hc, hs⟩
  refine va_callv hrun h4 (fun q _ hq => hq) (fun q hq => hq) (fun u t H1 locs1 ht hvm hpo hB hz hk hS => ?_)
  rw [ht] at hB
  exact k.use (by omega) ⟨h1, hB.1, hB.2, hS⟩ rfl
theorem c_iconst (hx : p.tables.exec = Jvm.exec) (hb : c.code = cB y) {n : Int} (hd : decode (cB y) pc = .ok (.iconst n, 1)) (k : Wc p l e R s m args below meth c Q B D cT (cL y) (pc + 1) lv (aI n :: st) F nc ns) : Wc p l e R s m args below meth c Q B D cT (cL y) pc lv st F nc ns := fun hn ls H locs h =>
  lv_iconst hx hb hd rfl (k.use hn h (by rw [List.map_cons, cV_I]; rfl))
theorem c_bipush (hx : p.tables.exec = Jvm.exec) (hb : c.code = cB y) {n : Int} (hd : decode (cB y) pc = .ok (.bipush n, 2)) (k : Wc p l e R s m args below meth c Q B D cT (cL y) (pc + 2) lv (aI (Int8.ofInt n).toInt :: st) F nc ns) : Wc p l e R s m args below meth c Q B D cT (cL y) pc lv st F nc ns := fun hn ls H locs h =>
  lv_bipush hx hb hd rfl (k.use hn h (by rw [List.map_cons, cV_I, i8_back]))
theorem c_sipush (hx : p.tables.exec = Jvm.exec) (hb : c.code = cB y) {n : Int} (hd : decode (cB y) pc = .ok (.sipush n, 3)) (k : Wc p l e R s m args below meth c Q B D cT (cL y) (pc + 3) lv (aI (Int16.ofInt n).toInt :: st) F nc ns) : Wc p l e R s m args below meth c Q B D cT (cL y) pc lv st F nc ns := fun hn ls H locs h =>
  lv_sipush hx hb hd rfl (k.use hn h (by rw [List.map_cons, cV_I, i16_back]))
theorem c_dup (hx : p.tables.exec = Jvm.exec) (hb : c.code = cB y) {z : Int} (hd : decode (cB y) pc = .ok (.dup, 1)) (k : Wc p l e R s m args below meth c Q B D cT (cL y) (pc + 1) lv ((1, z) :: (1, z) :: st) F nc ns) : Wc p l e R s m args below meth c Q B D cT (cL y) pc lv ((1, z) :: st) F nc ns := fun hn ls H locs h =>
  lv_dup hx hb hd rfl (k.use hn h rfl)
theorem c_aload (hx : p.tables.exec = Jvm.exec) (hb : c.code = cB y) {i : Fin 4} {z : Int} (hg : lv[(i : Nat)]? = some (1, z)) (hd : decode (cB y) pc = .ok (.aload_n i, 1)) (k : Wc p l e R s m args below meth c Q B D cT (cL y) (pc + 1) lv ((1, z) :: st) F nc ns) : Wc p l e R s m args below meth c Q B D cT (cL y) pc lv st F nc ns := fun hn ls H locs h =>
  lv_aload_n hx hb hd rfl ((h.1.2.2.2 i _ hg).1 (show (1 : Nat) < 2 by decide)) (k.use hn h rfl)
theorem c_astore (hx : p.tables.exec = Jvm.exec) (hb : c.code = cB y) {i : Fin 4} {z : Int} (hi : (i : Nat) < lv.length) (hd : decode (cB y) pc = .ok (.astore_n i, 1)) (k : Wc p l e R s m args below meth c Q B D cT (cL y) (pc + 1) (lv.set i (1, z)) st F nc ns) : Wc p l e R s m args below meth c Q B D cT (cL y) pc lv ((1, z) :: st) F nc ns := fun hn ls H locs h =>
  lv_astore_n hx hb hd rfl h.1.has (by rw [← h.1.2.1]; exact hi) rfl (fun ls' hl' => k.use hn ⟨h.1.set (v := (1, z)) (by have := i.isLt; omega) (by show (1 : Nat) < 2; decide) hl', h.2⟩ rfl)
/-- one instruction -/
theorem c_step {i : Instr} {len : Nat} {r : CRs} (C0 : CXZ p s m args meth c Ts y (cB y) (cL y)) (hname : meth.name = "<init>") (hy : y < 13) (hK : KZ D cT s) (hN : NSC s) (hM : MAK cT s) (hBs : B ≤ s.heap.size) (hR : d + 1 ≤ R.frames ∧ 40 * (d + 1) ≤ R.locals ∧ cM y ≤ R.cells ∧ sM y ≤ R.slots) (hC : CND l C d) (hd : decode (cB y) pc = .ok (i, len)) (hs : cstep C y i len pc lv st F nc ns = some r)
    (kn : ∀ pc' lv' st' F' nc' ns', r = .inl (pc', lv', st', F', nc', ns') → Wc p l e R s m args below meth c Q B D cT (cL y) pc' lv' st' F' nc' ns') (kr : decode (cB y) pc = .ok (.return_, 1) → r = .inr (F, nc, ns) → Wc p l e R s m args below meth c Q B D cT (cL y) pc lv [] F nc ns) : Wc p l e R s m args below meth c Q B D cT (cL y) pc lv st F nc ns := by
  have hx := C0.1
  have hb := C0.2.1
  unfold cstep at hs
  split at hs
  · split at hs
    next z hg =>
      split at hs
      next hl => subst hl; cases hs; exact c_aload hx hb hg hd (kn _ _ _ _ _ _ rfl)
      next => cases hs
    next => cases hs
  · split at hs
    next z su =>
      split at hs
      next hl => obtain ⟨rfl, hl⟩ := hl; cases hs; exact c_astore hx hb hl hd (kn _ _ _ _ _ _ rfl)
      next => cases hs
    next => cases hs
  · split at hs
    next hl => subst hl; cases hs; exact c_iconst hx hb hd (kn _ _ _ _ _ _ rfl)
    next => cases hs
  · split at hs
    next hl => subst hl; cases hs; exact c_bipush hx hb hd (kn _ _ _ _ _ _ rfl)
    next => cases hs
  · split at hs
    next hl => subst hl; cases hs; exact c_sipush hx hb hd (kn _ _ _ _ _ _ rfl)
    next => cases hs
  · split at hs
    next z su =>
      split at hs
      next hl => subst hl; cases hs; exact c_dup hx hb hd (kn _ _ _ _ _ _ rfl)
      next => cases hs
    next => cases hs
  · split at hs
    next n su =>
      split at hs
      next hl =>
        obtain ⟨rfl, h0, h1, h2, h3, h4, h5⟩ := hl
        cases hs
        exact c_newarray C0 hK h0 h1 h2 h3 (by omega) (by omega) hd (kn _ _ _ _ _ _ rfl)
      next => cases hs
    next => cases hs
  · split at hs
    next n k su =>
      split at hs
      next hl =>
        obtain ⟨rfl, rfl, rfl, rfl, rfl, rfl, h1, h2, h3, h4, h5⟩ := hl
        cases hs
        exact c_multi C0 hK hM h1 h2 h3 (by omega) (by omega) hd (kn _ _ _ _ _ _ rfl)
      next => cases hs
    next => cases hs
  · split at hs
    next ci hci =>
      split at hs
      next hl =>
        obtain ⟨rfl, h1, h2, h3⟩ := hl
        cases hs
        exact c_new (ci := ci) C0 hy hK hBs (clxAll y hy _ (lookup_mem hci)) h1 (by omega) (by omega) hd (kn _ _ _ _ _ _ rfl)
      next => cases hs
    next => cases hs
  · split at hs
    next k hk =>
      split at hs
      next v r' su =>
        split at hs
        next hl =>
          obtain ⟨rfl, h1, h2, h3, h4⟩ := hl
          cases hs
          exact c_put (r := r'.toNat) (v := v) C0 hname hy hK (clfAll y hy _ (lookup_mem hk)) h1 h2 h3 h4 hd (kn _ _ _ _ _ _ rfl)
        next => cases hs
      next => cases hs
    next => cases hs
  · split at hs
    next k hk =>
      split at hs
      next r' su =>
        split at hs
        next v hv =>
          split at hs
          next hl =>
            obtain ⟨rfl, h1, h2⟩ := hl
            cases hs
            exact c_get (r := r'.toNat) (v := v) C0 hy hK (clfAll y hy _ (lookup_mem hk)) h1 h2 hv hd (kn _ _ _ _ _ _ rfl)
          next => cases hs
        next => cases hs
      next => cases hs
    next => cases hs
  · split at hs
    next hk =>
      split at hs
      next z su =>
        split at hs
        next hl =>
          obtain ⟨rfl, h1⟩ := hl
          cases hs
          exact c_obj C0 ⟨by omega, by omega⟩ (clmAll y hy _ (lookup_mem hk)) h1 hd (kn _ _ _ _ _ _ rfl)
        next => cases hs
      next => cases hs
    next j hk =>
      split at hs
      next hl =>
        obtain ⟨rfl, h1, h2, h3, h4, h5⟩ := hl
        split at hs
        next F' hF =>
          split at hs
          next hF2 =>
            cases hs
            refine c_call (as := (st.take (cNa j)).reverse) (rest := st.drop (cNa j)) C0 hK hN hM hBs ⟨hR.1, hR.2.1⟩ hC (clmAll y hy _ (lookup_mem hk)) (by rw [List.reverse_reverse, List.take_append_drop]) (by rw [List.length_reverse, List.length_take]; omega) (by rw [List.all_reverse]; exact h2) h3 hF hF2 (by omega) (by omega) hd (kn _ _ _ _ _ _ rfl)
          next => cases hs
        next => cases hs
      next => cases hs
    next => cases hs
  · split at hs
    next =>
      split at hs
      next hl => subst hl; cases hs; exact kr hd rfl
      next => cases hs
    next => cases hs
  · cases hs
end CR
section CRR
variable {p : Program} {l : Launch} {e : Env} {R : Room} {s : State} {m : MethodId} {args : Array Value} {below : List Frame} {meth : Method} {c : Code}
variable {B : Nat} {D : va_G} {cT : Nat → ClassId} {y d : Nat} {Ts : List Cond} {C : Nat → List AV → CFl → Option CFl} {Fe : CFl}
theorem c_run (C0 : CXZ p s m args meth c Ts y (cB y) (cL y)) (hret : meth.sig.returnType = none) (hlocks : meth.locks = false) (hname : meth.name = "<init>") (hy : y < 13) (hK : KZ D cT s) (hN : NSC s) (hM : MAK cT s) (hBs : B ≤ s.heap.size) (hR : d + 1 ≤ R.frames ∧ 40 * (d + 1) ≤ R.locals ∧ cM y ≤ R.cells ∧ sM y ≤ R.slots) (hC : CND l C d) : ∀ (n : Nat) (q : CSt), crun C y n q = some Fe →
    Wc p l e R s m args below meth c (MQ below (QC B D cT Fe) args s (cM y) (sM y) (fun q => B ≤ q)) B D cT (cL y) q.1 q.2.1 q.2.2.1 q.2.2.2.1 q.2.2.2.2.1 q.2.2.2.2.2 := by
  intro n
  induction n with
  | zero => intro q h; cases h
  | succ n ih =>
    intro q h
    unfold crun at h
    cases hd : decode (cB y) q.1 with
    | error x => rw [hd] at h; cases h
    | ok t =>
      obtain ⟨i, len⟩ := t
      rw [hd] at h
      dsimp only at h
      cases hs : cstep C y i len q.1 q.2.1 q.2.2.1 q.2.2.2.1 q.2.2.2.2.1 q.2.2.2.2.2 with
      | none => rw [hs] at h; cases h
      | some r =>
        rw [hs] at h
        refine c_step C0 hname hy hK hN hM hBs hR hC hd hs (fun pc' lv' st' F' nc' ns' hq => ?_) (fun hd2 hq => ?_)
        · subst hq
          exact ih (pc', lv', st', F', nc', ns') h
        · subst hq
          dsimp only at h
          split at h
          next hle =>
            cases h
            intro hn ls H locs hZ
            obtain ⟨h1, h2, h3, h4⟩ := hZ
            refine W.widen hle.1 hle.2 ?_
            refine W.vret C0.1 C0.2.1 hret (fun t ht hW => ?_) h4.2.2 hd2 hlocks
            exact ⟨⟨(), rfl, trivial, by rw [ht]; exact h2, by rw [ht]; exact h3⟩, h4.F ht⟩
          next => cases h
end CRR
/-- WHAT THE CONSTRUCTORS' MACHINE ANSWERS, THE MACHINE ANSWERS -/
theorem c_met (l : Launch) : ∀ d, CND l (ccall d) d := by
  intro d
  induction d with
  | zero => intro B D cT j as F F' hj h; cases h
  | succ d ih =>
    intro B D cT j as F F' hj h
    unfold ccall at h
    split at h
    next hg =>
      obtain ⟨-, hlen, hall⟩ := hg
      obtain ⟨⟨m1, m2, m3⟩, m4, m5, m6, m7, m8⟩ := cfmAll j hj
      refine Met.ofW (cc := cB j) (maxL := cL j) (ret := none) m4 rfl ?_
      intro p e s m args below meth c s₁ Bd hml hv
      obtain ⟨rfl, hsz, hP, hK, hN, hM⟩ := hv
      have hts := atoms_spec (ws := wsC j) Bd.pre
      have hown : s.vm.findClass (clsN j) = some m.cls := findClass_of_methodNamed Bd.named
      have hname : meth.name = "<init>" := (name_of_methodNamed Bd.named Bd.method).1
      have C0 : CXZ p s m _ meth c (wsC j) j (cB j) (cL j) := ⟨Bd.exec, Bd.bytes, hml, hown, hts, fun q hq => List.mem_cons_of_mem _ hq⟩
      have hsl : lg_sl (as.map (cV (adB B))) = as.map (fun v => Slot.val (cV (adB B) v)) := by
        clear h hlen hsz hP hts C0 Bd
        induction as with
        | nil => rfl
        | cons a t iht =>
          simp only [List.all_cons, Bool.and_eq_true] at hall
          obtain ⟨z, rfl⟩ := isR_s hall.1
          have e1 : lg_sl (((1, z) :: t).map (cV (adB B))) = [Slot.val (cV (adB B) (1, z))] ++ lg_sl (t.map (cV (adB B))) := rfl
          rw [e1, iht hall.2]
          rfl
      have hlv := lv_entry (as.map (cV (adB B))) (n := cL j) (by rw [hsl, List.length_map]; omega)
      have hLR : LRz (adB B) 99 (cL j) ((lg_sl (as.map (cV (adB B))) ++ List.replicate (cL j - (lg_sl (as.map (cV (adB B)))).length) Slot.unset).toArray) (as ++ List.replicate (cL j - as.length) aU) := by
        refine ⟨hlv.1, by rw [List.length_append, List.length_replicate]; omega, hlv.2.1, fun i v hi => ?_⟩
        by_cases hlt : i < as.length
        · rw [List.getElem?_append_left hlt] at hi
          have hv1 : v.1 = 1 := by
            have := List.all_eq_true.mp hall v (List.mem_of_getElem? hi)
            simpa [isR] using this
          refine ⟨fun _ => ?_, fun z => by omega⟩
          rw [hsl, List.getElem?_toArray, List.getElem?_append_left (by rw [List.length_map]; exact hlt), List.getElem?_map, hi]
          rfl
        · rw [List.getElem?_append_right (by omega)] at hi
          have := List.eq_of_mem_replicate (List.mem_of_getElem? hi)
          subst this
          exact ⟨fun z => absurd z (by decide), fun z => absurd z (by decide)⟩
      have hrun := c_run (e := e) (below := below) (R := rmC j (d + 1)) (B := B) C0 Bd.returns Bd.notSynchronized hname hj hK hN hM (by rw [hsz]; exact Nat.le_add_right _ _) ⟨Nat.le_refl _, Nat.le_refl _, Nat.le_refl _, Nat.le_refl _⟩ ih 300 _ h
      have hq := hrun (by show s.heap.size + 0 = B + F.length; omega) _ s.heap [] ⟨hLR, hsz, hP, va_S.rf⟩
      show W p l e (rmC j (d + 1)) s m _ below meth c s.heap [] 0 0 _ (entryFrame m (as.map (cV (adB B))).toArray (cL j))
      rw [lg_entry_eq]
      exact hq
    next => cases h
