/-! the constructors' machine is right: what it does, the machine does -/
def adB (B : Nat) : Nat → Nat := fun j => B + j
def eC (B : Nat) (cT : Nat → ClassId) (F : CFl) (j : Nat) : va_E := if (kl j).1 = 0 then .inr ((kl j).2, (F.getD j []).map (cV (adB B))) else if (kl j).1 = 4 then .inl (cT 4, (kl j).2, .inr (.inr (.inr (.inr (fun i => some (B + ord (rcn (ivo j) i))))))) else .inl (cT (kl j).1, (kl j).2, .inl (fun _ => 0))
def CW (B : Nat) (cT : Nat → ClassId) (F : CFl) : va_W := (List.range F.length).map (fun j => (B + j, eC B cT F j))
section CWS
variable {B : Nat} {cT : Nat → ClassId} {F : CFl} {D : va_G} {H H1 : Heap}
theorem CW_len : (CW B cT F).length = F.length := by simp [CW]
theorem CW_get {j : Nat} (h : j < F.length) : (CW B cT F)[j]? = some (B + j, eC B cT F j) := by
  unfold CW
  rw [List.getElem?_map, List.getElem?_range h]
  rfl
theorem CW_key {k : Nat} {q : Nat × va_E} (h : (CW B cT F)[k]? = some q) : k < F.length ∧ q = (B + k, eC B cT F k) := by
  have hk : k < F.length := by
    have := (List.getElem?_eq_some_iff.mp h).1
    rw [CW_len] at this
    exact this
  rw [CW_get hk] at h
  exact ⟨hk, (Option.some.inj h).symm⟩
theorem CW_D : va_D (fun q => B ≤ q) (CW B cT F) := by
  refine ⟨fun i j p q hp hq e => ?_, fun k q hq => ?_⟩
  · rw [(CW_key hp).2, (CW_key hq).2] at e
    exact Nat.add_left_cancel e
  · rw [(CW_key hq).2]
    exact Nat.le_add_right _ _
theorem eC_app {j : Nat} {G : CFl} (h : j < F.length) : eC B cT (F ++ G) j = eC B cT F j := by
  unfold eC
  rw [List.getD_eq_getElem?_getD, List.getD_eq_getElem?_getD, List.getElem?_append_left h]
theorem CW_app {x : List AV} : CW B cT (F ++ [x]) = CW B cT F ++ [(B + F.length, eC B cT (F ++ [x]) F.length)] := by
  unfold CW
  rw [List.length_append, List.length_singleton, List.range_succ, List.map_append]
  congr 1
  exact List.map_congr_left fun j hj => by rw [eC_app (List.mem_range.mp hj)]
theorem CW_push {x : List AV} (hP : va_P D clZ (CW B cT F) H) (ho : ∀ q, q < H.size → H1[q]? = H[q]?) (he : va_at D clZ (B + F.length, eC B cT (F ++ [x]) F.length) H1) : va_P D clZ (CW B cT (F ++ [x])) H1 := by
  rw [CW_app]
  refine (hP.kept (fun k q hq => ho _ (hP k q hq).lt)).app (fun k q hq => ?_)
  have hz : k < 1 := (List.getElem?_eq_some_iff.mp hq).1
  rw [show k = 0 by omega] at hq
  cases hq
  exact he
theorem eC_0 {r c : Nat} (hk : kl r = (0, c)) : eC B cT F r = .inr (c, (F.getD r []).map (cV (adB B))) := by
  unfold eC
  rw [hk]
  rfl
theorem eC_t {r t n : Nat} (hk : kl r = (t, n)) (h0 : t ≠ 0) (h4 : t ≠ 4) : eC B cT F r = .inl (cT t, n, .inl (fun _ => 0)) := by
  unfold eC
  rw [hk, if_neg h0, if_neg h4]
theorem CW_set {r k c : Nat} {v : AV} (hr : r < F.length) (hk : kl r = (0, c)) : (CW B cT F).set r (B + r, .inr (c, ((F.getD r []).map (cV (adB B))).set k (cV (adB B) v))) = CW B cT (F.set r ((F.getD r []).set k v)) := by
  apply List.ext_getElem?
  intro i
  rw [List.getElem?_set]
  by_cases hi : r = i
  · subst hi
    rw [if_pos rfl, if_pos (by rw [CW_len]; exact hr), CW_get (by rw [List.length_set]; exact hr), eC_0 hk, List.getD_eq_getElem?_getD (l := F.set _ _), List.getElem?_set_self hr]
    simp [List.map_set]
  · rw [if_neg hi]
    by_cases h : i < F.length
    · rw [CW_get h, CW_get (by rw [List.length_set]; exact h)]
      unfold eC
      rw [List.getD_eq_getElem?_getD (l := F.set _ _), List.getElem?_set_ne hi, ← List.getD_eq_getElem?_getD]
    · rw [List.getElem?_eq_none (by rw [CW_len]; omega), List.getElem?_eq_none (by rw [CW_len, List.length_set]; omega)]
end CWS
def rmC (j d : Nat) : Room := { frames := d, cells := cM j, slots := sM j, locals := 40 * d }
def NSC (U : State) : Prop := ∀ w ∈ nstC, va_Nw w U
theorem NSC.moved {s U : State} (hW : s.WarmedH U.vm) (h : NSC s) : NSC U := fun w hw => by
  have h2 := h w hw
  simp only [nstC, List.mem_cons, List.not_mem_nil, or_false] at hw
  rcases hw with rfl | rfl | rfl | rfl | rfl | rfl <;> exact va_Nw.warmM hW h2
theorem NSC.same {u U : State} (hv : u.vm = U.vm) (h : NSC u) : NSC U := fun w hw => by
  have h2 := h w hw
  simp only [nstC, List.mem_cons, List.not_mem_nil, or_false] at hw
  rcases hw with rfl | rfl | rfl | rfl | rfl | rfl <;> exact va_Nw.same rfl hv h2
/-- what the tables say of the two classes of arrays -/
def MAK (cT : Nat → ClassId) (U : State) : Prop := ∃ (kO kI : Class) (cc : ClassId), U.vm.classes[cT 4]? = some kO ∧ kO.kind = .array (cT 1) (.array .int) ∧ U.vm.classes[cT 1]? = some kI ∧ kI.kind = .array cc .int
theorem MAK.moved {cT : Nat → ClassId} {u U : State} (hA : u.vm.Alike U.vm) (h : MAK cT u) : MAK cT U := by
  obtain ⟨kO, kI, cc, h1, h2, h3, h4⟩ := h
  obtain ⟨k1, g1, e1⟩ := hA.2.2 _ _ h1
  obtain ⟨k2, g2, e2⟩ := hA.2.2 _ _ h3
  exact ⟨k1, k2, cc, g1, by rw [e1]; exact h2, g2, by rw [e2]; exact h4⟩
def wsC (y : Nat) : List Cond := Cond.code (cN y) (cB y) (cL y) none :: TBW
def PcC (B : Nat) (D : va_G) (cT : Nat → ClassId) (F : CFl) (as : List AV) : Array Value → State → Prop := va_Pc (as.map (cV (adB B))) (fun U => U.heap.size = B + F.length ∧ va_P D clZ (CW B cT F) U.heap ∧ KZ D cT U ∧ NSC U ∧ MAK cT U)
def QC (B : Nat) (D : va_G) (cT : Nat → ClassId) (F : CFl) : Array Value → State → Outcome → State → Prop := va_Qv (fun (_ : Unit) => True) (fun _ t => t.heap.size = B + F.length ∧ va_P D clZ (CW B cT F) t.heap) (fun q => B ≤ q)
theorem pcC_blind {B : Nat} {D : va_G} {cT : Nat → ClassId} {F : CFl} {as : List AV} : FrameBlind (PcC B D cT F as) := fun a U g mk h => by
  obtain ⟨h1, h2, h3, h4, h5, h6⟩ := h
  exact ⟨h1, h2, h3, KZ.same (u := U) (U := U.calling g mk a) rfl h4, NSC.same (u := U) (U := U.calling g mk a) rfl h5, MAK.moved (U := U.calling g mk a) (Vm.Alike.refl U.vm) h6⟩
def CND (l : Launch) (C : Nat → List AV → CFl → Option CFl) (d : Nat) : Prop := ∀ (B : Nat) (D : va_G) (cT : Nat → ClassId) (j : Nat) (as : List AV) (F F' : CFl), j < 13 → C j as F = some F' → Met l (cN j) (wsC j) (rmC j d) (PcC B D cT F as) (QC B D cT F') (cM j) (sM j) (fun q => B ≤ q)
section CS
variable {p : Program} {l : Launch} {e : Env} {R : Room} {s : State} {m : MethodId} {args : Array Value} {below : List Frame} {meth : Method} {c : Code} {Q : State → Prop}
variable {B : Nat} {D : va_G} {cT : Nat → ClassId} {y pc nc ns d : Nat} {lv st : List AV} {F : CFl} {Ts : List Cond} {C : Nat → List AV → CFl → Option CFl}
def SCz (B : Nat) (D : va_G) (cT : Nat → ClassId) (nL : Nat) (H0 : Heap) (ls : Array Slot) (lv : List AV) (F : CFl) (H : Heap) (locs : List Loc) : Prop := LRz (adB B) 99 nL ls lv ∧ H.size = B + F.length ∧ va_P D clZ (CW B cT F) H ∧ va_S (fun q => B ≤ q) H0 H locs
def Wc (p : Program) (l : Launch) (e : Env) (R : Room) (s : State) (m : MethodId) (args : Array Value) (below : List Frame) (meth : Method) (c : Code) (Q : State → Prop) (B : Nat) (D : va_G) (cT : Nat → ClassId) (nL : Nat) (pc : Nat) (lv st : List AV) (F : CFl) (nc ns : Nat) : Prop :=
  s.heap.size + nc = B + F.length → ∀ (ls : Array Slot) (H : Heap) (locs : List Loc), SCz B D cT nL s.heap ls lv F H locs → W p l e R s m args below meth c H locs nc ns Q (F0 m pc ls (st.map (cV (adB B))))
theorem Wc.use {nL : Nat} {ls : Array Slot} {H : Heap} {locs : List Loc} {rs : List Value} (k : Wc p l e R s m args below meth c Q B D cT nL pc lv st F nc ns) (hn : s.heap.size + nc = B + F.length) (h : SCz B D cT nL s.heap ls lv F H locs) (he : st.map (cV (adB B)) = rs) : W p l e R s m args below meth c H locs nc ns Q (F0 m pc ls rs) := he ▸ k hn ls H locs h
theorem W_sz {H1 : Heap} {locs1 : List Loc} {g : JFrame} (h : H1.size ≤ s.heap.size + nc → W p l e R s m args below meth c H1 locs1 nc ns Q g) : W p l e R s m args below meth c H1 locs1 nc ns Q g := fun T hT X => h (by rw [← hT]; exact X.heapSize) T hT X
theorem tys_1 (hK : KZ D cT s) {t : ArrayType} {k : Nat} {cA : ClassId} (hk : tcod t = k) (h4 : k < 4) (hn : s.vm.findClass ("[" ++ (newarray.typeOf t).toString) = some cA) : cA = cT k := by
  subst hk
  cases t with
  | int => exact Option.some.inj (hn.symm.trans (hK.1.2 0 _ rfl).2)
  | boolean => exact Option.some.inj (hn.symm.trans (hK.1.2 1 _ rfl).2)
  | char => exact Option.some.inj (hn.symm.trans (hK.1.2 2 _ rfl).2)
  | _ => exact absurd h4 (by decide)
theorem c_new (C0 : CXZ p s m args meth c Ts y (cB y) (cL y)) (hy : y < 13) (hK : KZ D cT s) (hB : B ≤ s.heap.size) {idx ci : Nat} (hx : CLx y idx ci) (hk : kl F.length = (0, ci)) (hc : nc + 1 ≤ R.cells) (hs : ns + nfZ ci ≤ R.slots) (hd : decode (cB y) pc = .ok (.new idx, 3))
    (k : Wc p l e R s m args below meth c Q B D cT (cL y) (pc + 3) lv (aR F.length :: st) (F ++ [cdf ci]) (nc + 1) (ns + nfZ ci)) : Wc p l e R s m args below meth c Q B D cT (cL y) pc lv st F nc ns := fun hn ls H locs h => by
  obtain ⟨hx0, hb, hml, hown, hts, hT⟩ := C0
  obtain ⟨h1, h2, h3, h4⟩ := h
  obtain ⟨⟨x1, x2, x3⟩, hci⟩ := hx
  have hcl := clzAll ci hci
  have hKn := hK.1.1 ci _ hcl
  obtain ⟨f1, f2, f3⟩ := fcAll ci hci
  refine W.newcK hx0 hb hown (hts _ (hT _ x1)) (hts _ (hT _ x2)) (hts _ (hT _ x3)) rfl hd hc hs hKn.2.1 h2 fun H1 kC hkC e1 z1 o1 => ?_
  refine k.use (by rw [List.length_append, List.length_singleton]; omega) ⟨h1, by rw [z1, List.length_append]; rfl, CW_push h3 (fun q hq => o1 q (by rw [← h2]; exact hq)) ?_, ⟨by rw [z1, ← h2]; exact Nat.le_trans h4.1 (Nat.le_succ _), fun q q1 q2 => (o1 q (by rw [← h2]; exact Nat.lt_of_lt_of_le q1 h4.1)).trans (h4.2.1 q q1 q2), h4.2.2⟩⟩ (by rw [List.map_cons, cV_R]; rfl)
  rw [eC_0 hk]
  refine ⟨_, hcl, (u_born (tyZ ci) hts (fun q hq => hT q (f1 q hq)) hKn hkC e1 f2).to fun j hj => ?_⟩
  have ht := ftAll ci hci j hj
  obtain ⟨⟨k1, k2⟩, k3⟩ := ckr ci hci j hj
  have hl : j < (cdf ci).length := by unfold cdf; rw [List.length_map, List.length_range]; exact hj
  rw [List.getD_eq_getElem?_getD, List.getElem?_append_right (Nat.le_refl _), Nat.sub_self]
  show _ = ((cdf ci).map (cV (adB B))).getD j .null
  rw [List.getD_eq_getElem?_getD, List.getElem?_map]
  unfold cdf
  rw [List.getElem?_map, List.getElem?_range hj]
  show _ = cV (adB B) (if 2 ≤ fkd ci j then aJ else aI 0)
  by_cases h2' : 2 ≤ fkd ci j
  · rw [if_pos h2', k3 h2']; rfl
  · rw [if_neg h2']
    rcases (by omega : fkd ci j = 0 ∨ fkd ci j = 1) with z | z
    · rw [(ht.1 z).1]; rfl
    · rw [(ht.2.1 z).1]; rfl
theorem c_newarray (C0 : CXZ p s m args meth c Ts y (cB y) (cL y)) (hK : KZ D cT s) {t : ArrayType} {n : Int} (h0 : 0 ≤ n) (hm : n ≤ 100000) (h4 : tcod t < 4) (hk : kl F.length = (tcod t, n.toNat)) (hc : nc + 1 ≤ R.cells) (hs : ns + n.toNat ≤ R.slots) (hd : decode (cB y) pc = .ok (.newarray t, 2))
    (k : Wc p l e R s m args below meth c Q B D cT (cL y) (pc + 2) lv (aR F.length :: st) (F ++ [[]]) (nc + 1) (ns + n.toNat)) : Wc p l e R s m args below meth c Q B D cT (cL y) pc lv ((0, n) :: st) F nc ns := fun hn ls H locs h => by
  obtain ⟨hx0, hb, hml, hown, hts, hT⟩ := C0
  obtain ⟨h1, h2, h3, h5⟩ := h
  have hin : inI n := by unfold inI; omega
  have hw : Cond.arrayClass (newarray.typeOf t) ∈ TBW ∧ componentBytes (newarray.typeOf t) ≤ 4 ∧ defaultValue (newarray.typeOf t) = .int 0 ∧ tcod t ≠ 0 := by
    cases t with
    | int => exact ⟨car_int, by decide, rfl, by decide⟩
    | boolean => exact ⟨car_boolean, by decide, rfl, by decide⟩
    | char => exact ⟨car_char, by decide, rfl, by decide⟩
    | _ => exact absurd h4 (by decide)
  obtain ⟨w1, w2, w3, w4⟩ := hw
  refine va_newaK (n := i32 n) (N := n.toNat) hx0 hb (hts _ (hT _ w1)) rfl hd rfl (fun q => ?_) (i32_clamp hin) ?_ hc hs h2 fun H1 cA e1 z1 o1 hAr hNm => ?_
  · have := (i32_lt hin inI_0).mp q
    omega
  · have : n.toNat * componentBytes (newarray.typeOf t) ≤ 100000 * 4 := Nat.mul_le_mul (by omega) w2
    omega
  · have hcA := tys_1 hK rfl h4 hNm
    subst hcA
    refine k.use (by rw [List.length_append, List.length_singleton]; omega) ⟨h1, by rw [z1, List.length_append]; rfl, CW_push h3 (fun q hq => o1 q (by rw [← h2]; exact hq)) ?_, ⟨by rw [z1, ← h2]; exact Nat.le_trans h5.1 (Nat.le_succ _), fun q q1 q2 => (o1 q (by rw [← h2]; exact Nat.lt_of_lt_of_le q1 h5.1)).trans (h5.2.1 q q1 q2), h5.2.2⟩⟩ (by rw [List.map_cons, cV_R]; rfl)
    rw [eC_t hk w4 (by omega)]
    show H1[B + F.length]? = some (vp_cell _ _)
    rw [e1, w3]
    rfl
theorem narrow_int (v : Int32) : narrow .int (.int v) = .int v := rfl
theorem c_put (C0 : CXZ p s m args meth c Ts y (cB y) (cL y)) (hname : meth.name = "<init>") (hy : y < 13) (hK : KZ D cT s) {idx k r : Nat} {v : AV} (hf : CLf y idx k) (hr : kl r = (0, y)) (hl : r < F.length) (hkl : k < (F.getD r []).length) (hv : fkd y k = 0 ∧ v.1 = 0 ∨ fkd y k = 1 ∧ v = aI 0 ∨ 2 ≤ fkd y k ∧ v.1 = 1) (hd : decode (cB y) pc = .ok (.putfield idx, 3))
    (kk : Wc p l e R s m args below meth c Q B D cT (cL y) (pc + 3) lv st (F.set r ((F.getD r []).set k v)) nc ns) : Wc p l e R s m args below meth c Q B D cT (cL y) pc lv (v :: aR r :: st) F nc ns := fun hn ls H locs h => by
  obtain ⟨hx0, hb, hml, hown, hts, hT⟩ := C0
  obtain ⟨h1, h2, h3, h4⟩ := h
  obtain ⟨f1, f2, f3⟩ := fcAll y hy
  obtain ⟨g1, g2, g3⟩ := hf
  obtain ⟨t0, t1, t2⟩ := ftAll y hy k g2
  obtain ⟨⟨k1, k2⟩, k3⟩ := ckr y hy k g2
  have hg := (CW_get (B := B) (cT := cT) hl).trans (by rw [eC_0 hr])
  have hsame : ∀ x, s.fieldFound? (TZ y k).1 (TZ y k).2.1 (TZ y k).2.2.1 = some x → s.fieldFound? (clsN y) (TZ y k).2.1 (TZ y k).2.2.1 = some x := fun x hx => by rw [g3] at hx; exact hx
  have hlen : k < ((F.getD r []).map (cV (adB B))).length := by rw [List.length_map]; exact hkl
  have hsz : (F.set r ((F.getD r []).set k v)).length = F.length := List.length_set
  have hS0 : va_S (fun q => B ≤ q) H H locs := ⟨Nat.le_refl _, fun _ _ _ => rfl, h4.2.2⟩
  have fin : ∀ (H1 : Heap) (locs1 : List Loc), va_P D clZ ((CW B cT F).set r (B + r, .inr (y, ((F.getD r []).map (cV (adB B))).set k (cV (adB B) v)))) H1 → va_S (fun q => B ≤ q) H H1 locs1 → W p l e R s m args below meth c H1 locs1 nc ns Q (F0 m (pc + 3) ls (st.map (cV (adB B)))) := fun H1 locs1 hP hS => W_sz fun hz => by
    rw [CW_set hl hr] at hP
    exact kk.use (by rw [hsz]; exact hn) ⟨h1, by have := hS.1; omega, hP, ⟨Nat.le_trans h4.1 hS.1, fun q q1 q2 => (hS.2.1 q (Nat.lt_of_lt_of_le q1 h4.1) q2).trans (h4.2.1 q q1 q2), hS.2.2⟩⟩ rfl
  rw [List.map_cons, List.map_cons, cV_R]
  rcases hv with ⟨z, hv⟩ | ⟨z, rfl⟩ | ⟨z, hv⟩
  · obtain ⟨v1, v2⟩ := v
    obtain rfl : v1 = 0 := hv
    refine va_put (cl := clZ) (v := cV (adB B) (0, v2)) (ty := tyZ y k) (C := clsN y) (T := TZ y) (N := nfZ y) hx0 hb hts (fun q hq => hT q (f1 q hq)) (tyZ y) f2 f3 hown hK.1 h3 CW_D hS0 r hg (clzAll y hy) k g2 (hts _ (hT _ g1)) hsame (t0 z).2 (f2 k g2) (by rw [(t0 z).1]; rfl) (by rw [(t0 z).1]; rfl) hlen hd (fun H1 locs1 hP _ hS => fin H1 locs1 hP hS)
  · refine va_put (cl := clZ) (v := cV (adB B) (aI 0)) (ty := tyZ y k) (C := clsN y) (T := TZ y) (N := nfZ y) hx0 hb hts (fun q hq => hT q (f1 q hq)) (tyZ y) f2 f3 hown hK.1 h3 CW_D hS0 r hg (clzAll y hy) k g2 (hts _ (hT _ g1)) hsame (t1 z).2 (f2 k g2) (by rw [(t1 z).1]; rfl) (by rw [(t1 z).1]; rfl) hlen hd (fun H1 locs1 hP _ hS => fin H1 locs1 hP hS)
  · obtain ⟨v1, v2⟩ := v
    obtain rfl : v1 = 1 := hv
    rcases (by omega : fkd y k = 2 ∨ fkd y k = 3) with z3 | z3
    · obtain ⟨w1, w2, w3⟩ := t2 z3
      exact va_put (cl := clZ) (v := cV (adB B) (1, v2)) (ty := tyZ y k) (C := clsN y) (T := TZ y) (N := nfZ y) hx0 hb hts (fun q hq => hT q (f1 q hq)) (tyZ y) f2 f3 hown hK.1 h3 CW_D hS0 r hg (clzAll y hy) k g2 (hts _ (hT _ g1)) hsame w1 (f2 k g2) (narrow_ref w2 _) (w3 _) hlen hd (fun H1 locs1 hP _ hS => fin H1 locs1 hP hS)
    · obtain ⟨w1, w2, w3⟩ := k2 z3
      exact va_putF (cl := clZ) (v := cV (adB B) (1, v2)) (ty := tyZ y k) (C := clsN y) (T := TZ y) (N := nfZ y) hx0 hb hts (fun q hq => hT q (f1 q hq)) (tyZ y) f2 f3 hown hK.1 h3 CW_D hS0 r hg (clzAll y hy) k g2 (hts _ (hT _ g1)) hsame w1 hname g3 (f2 k g2) (narrow_ref w2 _) (w3 _) hlen hd (fun H1 locs1 hP _ hS => fin H1 locs1 hP hS)
theorem c_get (C0 : CXZ p s m args meth c Ts y (cB y) (cL y)) (hy : y < 13) (hK : KZ D cT s) {idx k r : Nat} {v : AV} (hf : CLf y idx k) (hr : kl r = (0, y)) (hl : r < F.length) (hv : (F.getD r [])[k]? = some v) (hd : decode (cB y) pc = .ok (.getfield idx, 3))
    (kk : Wc p l e R s m args below meth c Q B D cT (cL y) (pc + 3) lv (v :: st) F nc ns) : Wc p l e R s m args below meth c Q B D cT (cL y) pc lv (aR r :: st) F nc ns := fun hn ls H locs h => by
  obtain ⟨hx0, hb, hml, hown, hts, hT⟩ := C0
  have h' := h
  obtain ⟨h1, h2, h3, h4⟩ := h'
  obtain ⟨f1, f2, f3⟩ := fcAll y hy
  obtain ⟨g1, g2, g3⟩ := hf
  have hg := (CW_get (B := B) (cT := cT) hl).trans (by rw [eC_0 hr])
  rw [List.map_cons, cV_R]
  exact va_get (cl := clZ) (v := cV (adB B) v) (C := clsN y) (T := TZ y) (N := nfZ y) hx0 hb hts (fun q hq => hT q (f1 q hq)) hown hK.1 h3 r hg (clzAll y hy) k g2 (hts _ (hT _ g1)) (fun x hx => by rw [g3] at hx; exact hx) (by rw [List.getElem?_map, hv]; rfl) hd (kk.use hn h (by rw [List.map_cons]))
end CS
