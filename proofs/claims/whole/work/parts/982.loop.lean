section LS
variable {p : Program} {l : Launch} {e : Env} {s : State} {m : MethodId} {below : List Frame} {meth : Method} {c : Code} {Q : State → Prop}
variable {D : va_G} {cT : Nat → ClassId} {cL cD : ClassId} {b L : Nat} {xs : Nat → Int32} {pc cells slots n : Nat} {w w1 w2 : Mem} {ls : Array Slot} {H : Heap} {locs : List Loc} {rest st : List Value}
theorem law_head (C : LC p s m meth c D cT cL cD b L xs) {z : Int64} {u : UInt64} (hn : n ≤ 2000) (hL : LM s D cT cL cD w (.long z) (.double u) H locs) (hl : lv_has ls 9 (LVs b s.heap.size (i32 (n : Int))))
    (kt : L < n + 3 → W p l e room_1 s m #[Value.ref b] below meth c H locs cells slots Q (F0 m 705 ls [])) (kf : n + 3 ≤ L → W p l e room_1 s m #[Value.ref b] below meth c H locs cells slots Q (F0 m 37 ls [])) : W p l e room_1 s m #[Value.ref b] below meth c H locs cells slots Q (F0 m 28 ls []) := by
  obtain ⟨⟨hx, hb, hml, hown, hts, hT⟩, -, -, -, -, -, hX, hbl, hLx⟩ := C
  have hS := hL.2.2.2.2
  refine lv_iload hx hb dl_28 (lv_at hl 5 rfl) ?_
  refine lv_aload_n hx hb dl_30 rfl (lv_at hl 0 rfl) ?_
  refine va_slen hx hb hX hbl (A := fun q => s.heap.size ≤ q) (by show ¬ s.heap.size ≤ b; omega) hS dl_31 ?_
  have e0 : Int32.ofNat L = i32 (L : Int) := (i32_nat L).symm
  rw [e0]
  refine lv_iconst (v := i32 3) hx hb dl_32 rfl ?_
  refine lv_isub hx hb dl_33 ?_
  rw [i32_sub]
  refine lv_icmp_gt (tgt := 705) hx hb dl_34 (by decide) (fun h => kt ?_) (fun h => kf ?_)
  · have := (i32_lt (by unfold inI; omega) (by unfold inI; omega)).mp h
    omega
  · have := mt (i32_lt (by unfold inI; omega) (by unfold inI; omega)).mpr h
    omega
set_option maxHeartbeats 4000000 in
/-- the loop -/
theorem law_loop (hl0 : l.stackTraces = false) (C : LC p s m meth c D cT cL cD b L xs) (hr : meth.sig.returnType = ret) (hlk : meth.locks = false) : ∀ (r : Nat) {n cells slots : Nat} {w : Mem} {z : Int64} {u : UInt64} {ls : Array Slot} {H : Heap} {locs : List Loc}, L < n + 3 * (r + 1) → n ≤ 1600 → CPL w → LM s D cT cL cD w (.long z) (.double u) H locs → lv_has ls 9 (LVs b s.heap.size (i32 (n : Int))) → cells + r ≤ 601024 ∧ slots + 6 * r ≤ 7293034 →
    W p l e room_1 s m #[Value.ref b] below meth c H locs cells slots (lw_Z below #[Value.ref b] s) (F0 m 28 ls []) := by
  have C1 := C
  obtain ⟨⟨hx, hb, hml, hown, hts, hT⟩, -, -, -, -, -, hX, hbl, hLx⟩ := C1
  have fin : ∀ {n r cells slots : Nat} {w : Mem} {z : Int64} {u : UInt64} {ls : Array Slot} {H : Heap} {locs : List Loc}, LM s D cT cL cD w (.long z) (.double u) H locs → cells + r ≤ 601024 ∧ slots + 6 * r ≤ 7293034 → W p l e room_1 s m #[Value.ref b] below meth c H locs cells slots (lw_Z below #[Value.ref b] s) (F0 m 705 ls []) := fun {n r cells slots w z u ls H locs} hL hc => by
    refine W.forget (locs := []) (L := locs) (fun q hq => hL.2.2.2.2.2.2 q hq) ?_
    refine W.widen (k := 601024) (n := 7293034) (by omega) (by omega) ?_
    refine lv_iconst (v := 1) hx hb dl_705 rfl ?_
    exact lw_ret hx hb hr hlk dl_706
  intro r
  induction r with
  | zero =>
    intro n cells slots w z u ls H locs hn h2 hw hL hl hc
    exact law_head C (by omega) hL hl (fun _ => fin (n := n) hL hc) (fun h => by omega)
  | succ r ih =>
    intro n cells slots w z u ls H locs hn h2 hw hL hl hc
    refine law_head C (by omega) hL hl (fun _ => fin (n := n) hL hc) (fun h => ?_)
    refine law_case hl0 C h hw hL hl ⟨by omega, by omega⟩ (fun ls1 H1 locs1 w1 z1 u1 hw1 hl1 hL1 => ?_)
    refine lv_iinc (k := 5) (v := i32 ((n + 3 : Nat) : Int)) hx hb dl_699 hl1 rfl (by show i32 (n : Int) + i32 3 = _; rw [i32_add]; exact congrArg i32 (by omega)) (by decide) rfl (fun ls2 hl2 => ?_)
    refine lv_goto (tgt := 28) hx hb dl_702 (by decide) ?_
    exact ih (n := n + 3) (by omega) (by omega) hw1 hL1 (lv_sub hl2 [1, 2, 3, 4, 5, 0] rfl) ⟨by omega, by omega⟩
end LS
/-! the first objects -/
def LF (s : State) (D : va_G) (cT : Nat → ClassId) (F : CFl) (H : Heap) (locs : List Loc) : Prop := H.size = s.heap.size + F.length ∧ va_P D clZ (CW s.heap.size cT F) H ∧ va_S (fun q => s.heap.size ≤ q) s.heap H locs
section LN
variable {p : Program} {l : Launch} {e : Env} {R : Room} {s : State} {m : MethodId} {args : Array Value} {below : List Frame} {meth : Method} {c : Code} {Q : State → Prop}
variable {D : va_G} {cT : Nat → ClassId} {pc cells slots nL : Nat} {cc : ByteArray} {Ts : List Cond} {F F' : CFl} {ls : Array Slot} {H : Heap} {locs : List Loc} {rest : List Value}
theorem l_new (C0 : CXZ p s m args meth c Ts 14 cc nL) (hK : KZ D cT s) {idx ci : Nat} (hx : CLx 14 idx ci) (hk : kl F.length = (0, ci)) (hc : cells + 1 ≤ R.cells) (hs : slots + nfZ ci ≤ R.slots) (hd : decode cc pc = .ok (.new idx, 3)) (h : LF s D cT F H locs)
    (kk : ∀ H1, LF s D cT (F ++ [cdf ci]) H1 locs → W p l e R s m args below meth c H1 locs (cells + 1) (slots + nfZ ci) Q (F0 m (pc + 3) ls (.ref (s.heap.size + F.length) :: rest))) : W p l e R s m args below meth c H locs cells slots Q (F0 m pc ls rest) := by
  obtain ⟨hx0, hb, hml, hown, hts, hT⟩ := C0
  obtain ⟨h2, h3, h4⟩ := h
  obtain ⟨⟨x1, x2, x3⟩, hci⟩ := hx
  have hcl := clzAll ci hci
  have hKn := hK.1.1 ci _ hcl
  obtain ⟨f1, f2, f3⟩ := fcAll ci hci
  refine W.newcK hx0 hb hown (hts _ (hT _ x1)) (hts _ (hT _ x2)) (hts _ (hT _ x3)) rfl hd hc hs hKn.2.1 h2 fun H1 kC hkC e1 z1 o1 => ?_
  refine kk H1 ⟨by rw [z1, List.length_append]; rfl, CW_push h3 (fun q hq => o1 q (by rw [← h2]; exact hq)) ?_, ⟨by rw [z1, ← h2]; exact Nat.le_trans h4.1 (Nat.le_succ _), fun q q1 q2 => (o1 q (by rw [← h2]; exact Nat.lt_of_lt_of_le q1 h4.1)).trans (h4.2.1 q q1 q2), h4.2.2⟩⟩
  rw [eC_0 hk]
  refine ⟨_, hcl, (u_born (tyZ ci) hts (fun q hq => hT q (f1 q hq)) hKn hkC e1 f2).to fun j hj => ?_⟩
  have ht := ftAll ci hci j hj
  obtain ⟨⟨k1, k2⟩, k3⟩ := ckr ci hci j hj
  rw [List.getD_eq_getElem?_getD, List.getElem?_append_right (Nat.le_refl _), Nat.sub_self]
  show _ = ((cdf ci).map (cV (adB s.heap.size))).getD j .null
  rw [List.getD_eq_getElem?_getD, List.getElem?_map]
  unfold cdf
  rw [List.getElem?_map, List.getElem?_range hj]
  show _ = cV (adB s.heap.size) (if 2 ≤ fkd ci j then aJ else aI 0)
  by_cases h2' : 2 ≤ fkd ci j
  · rw [if_pos h2', k3 h2']; rfl
  · rw [if_neg h2']
    rcases (by omega : fkd ci j = 0 ∨ fkd ci j = 1) with z | z
    · rw [(ht.1 z).1]; rfl
    · rw [(ht.2.1 z).1]; rfl
theorem l_ctor (C0 : CXZ p s m args meth c Ts 14 cc nL) (hK : KZ D cT s) (hN : NSC s) (hM : MAK cT s) {idx j z0 : Nat} (hj : j < 13) (hR : 5 ≤ R.frames ∧ 200 ≤ R.locals) (hl : Cond.methodLink (clsN 14) idx (cN j) ∈ TBW) (hn1 : cNa j = 1) (hF : ccall 4 j [aR z0] F = some F') (hc : cells + cM j ≤ R.cells) (hs : slots + sM j ≤ R.slots) (hls : ls.size = nL) (hrl : (rest.map fun v => v.category).sum ≤ 8) (hd : decode cc pc = .ok (.invokespecial idx, 3)) (h : LF s D cT F H locs)
    (kk : ∀ H1 locs1, LF s D cT F' H1 locs1 → W p l e R s m args below meth c H1 locs1 (cells + cM j) (slots + sM j) Q (F0 m (pc + 3) ls rest)) : W p l e R s m args below meth c H locs cells slots Q (F0 m pc ls (.ref (s.heap.size + z0) :: rest)) := by
  obtain ⟨hx0, hb, hml, hown, hts, hT⟩ := C0
  obtain ⟨h2, h3, h4⟩ := h
  obtain ⟨⟨m1, m2, m3⟩, m4, m5, m6, m7, m8⟩ := cfmAll j hj
  have hM0 := c_met l 4 s.heap.size D cT j [aR z0] F F' hj hF
  have hG : GoodIn Ts (wsC j) := fun w hw => by
    rcases List.mem_cons.mp hw with rfl | q
    · exact ⟨hT _ m1, Or.inl rfl⟩
    · exact ⟨hT _ q, goodW q⟩
  have hp : PreS s H (PcC s.heap.size D cT F [aR z0]) [.ref (s.heap.size + z0)] := ⟨pcC_blind, fun U hU hW => ⟨by rw [List.map_cons, cV_R]; rfl, by rw [hU]; exact h2, by rw [hU]; exact h3, hK.moved hW, hN.moved hW, hM.moved hW.alike⟩⟩
  have hRl : (rmC j 4).frames + 1 ≤ R.frames ∧ 8 + (cL j + 11) + (rmC j 4).locals ≤ R.locals := ⟨hR.1, by show 8 + (cL j + 11) + 40 * 4 ≤ R.locals; omega⟩
  have hrun : va_Run p l e R s m args below meth c H locs cells slots (cM j) (sM j) (F0 m pc ls (.ref (s.heap.size + z0) :: rest)) rest (QC s.heap.size D cT F' (Value.ref (s.heap.size + z0) :: ([] : List Value)).toArray) (fun q => s.heap.size ≤ q) :=
    va_runI (As := []) ⟨hx0, hb, hml, hown, hts⟩ hM0 (cwI (cNa j - 1) hts hG rfl rfl rfl (hts _ (hT _ m3)) (hts _ (hT _ hl)) (hts _ (hT _ m2)) rfl m5 hRl) hp rfl (by rw [hn1]; rfl) hls rfl (by show 2 * 0 + _ ≤ 8; omega) hd ⟨hc, hs⟩
  refine va_callv hrun h4 (fun q _ hq => hq) (fun q hq => hq) (fun u t H1 locs1 ht hvm hpo hB hz hk hS => ?_)
  rw [ht] at hB
  exact kk H1 locs1 ⟨hB.1, hB.2, hS⟩
end LN
