/-! A method that is given cells of a region writes to cells of that region alone. (printed by frame.py) -/
def okP (P : Nat → Prop) (v : AV) : Prop := v.1 = 1 → P v.2.toNat
def okL (P : Nat → Prop) (l : List AV) : Prop := ∀ v ∈ l, okP P v
def DY (P : Nat → Prop) (s : Mem) : Prop := ∀ r k, P r → fkd (obC r) k = 2 → 0 ≤ s r k → P (s r k).toNat
def SM (P : Nat → Prop) (s t : Mem) : Prop := (∀ k, ¬ P k → ∀ j, t k j = s k j) ∧ DY P t
/-- the region is closed under what the layout fixes -/
def RGN (P : Nat → Prop) : Prop := (∀ r k, P r → fkd (obC r) k = 3 → P (fcn r k)) ∧ (∀ r (i : Int), P r → 0 ≤ i → i < aN4 r → P (rcn r i.toNat))
theorem SM.rf {P : Nat → Prop} {s : Mem} (h : DY P s) : SM P s s := ⟨fun _ _ _ => rfl, h⟩
theorem SM.tr {P : Nat → Prop} {s t u : Mem} (h : SM P s t) (h2 : SM P t u) : SM P s u := ⟨fun k hk j => (h2.1 k hk j).trans (h.1 k hk j), h2.2⟩
theorem okP_0 {P : Nat → Prop} (z : Int) : okP P (0, z) := fun h => absurd (show (0 : Nat) = 1 from h) (by decide)
theorem okP_2 {P : Nat → Prop} (z : Int) : okP P (2, z) := fun h => absurd (show (2 : Nat) = 1 from h) (by decide)
theorem okP_3 {P : Nat → Prop} (z : Int) : okP P (3, z) := fun h => absurd (show (3 : Nat) = 1 from h) (by decide)
theorem okP_U {P : Nat → Prop} : okP P aU := fun h => absurd (show (4 : Nat) = 1 from h) (by decide)
theorem okP_R {P : Nat → Prop} {r : Nat} (h : P r) : okP P (aR r) := fun _ => by show P ((r : Int).toNat); rw [Int.toNat_natCast]; exact h
theorem okP_r {P : Nat → Prop} {r : Nat} (h : okP P (aR r)) : P r := by have := h rfl; rw [show (aR r).2 = ((r : Nat) : Int) from rfl, Int.toNat_natCast] at this; exact this
theorem okL_n {P : Nat → Prop} : okL P [] := fun _ h => absurd h List.not_mem_nil
theorem okL_c {P : Nat → Prop} {v : AV} {l : List AV} (h : okP P v) (hl : okL P l) : okL P (v :: l) := fun u hu => by
  rcases List.mem_cons.mp hu with rfl | q
  · exact h
  · exact hl u q
theorem okL.h {P : Nat → Prop} {v : AV} {l : List AV} (h : okL P (v :: l)) : okP P v := h v List.mem_cons_self
theorem okL.t {P : Nat → Prop} {v : AV} {l : List AV} (h : okL P (v :: l)) : okL P l := fun u hu => h u (List.mem_cons_of_mem _ hu)
theorem okL.g {P : Nat → Prop} {v : AV} {l : List AV} {i : Nat} (h : okL P l) (hi : l[i]? = some v) : okP P v := h v (List.mem_of_getElem? hi)
theorem okL.s {P : Nat → Prop} {v : AV} {l : List AV} {i : Nat} (h : okL P l) (hv : okP P v) : okL P (l.set i v) := fun u hu => by
  rcases List.mem_or_eq_of_mem_set hu with q | q
  · exact h u q
  · rw [q]; exact hv
theorem fkd_arr {r t k : Nat} (h : (kd r).1 = t) (ht : t ≠ 0) : fkd (obC r) k = 9 := by
  have : obC r = 999 := by unfold obC; rw [if_neg (by omega)]
  rw [this]
  rfl
theorem aN_0 {r : Nat} {i : Int} (t : Nat) (h : 0 ≤ i) (h1 : i < (if (kd r).1 = t then ((kd r).2 : Int) else 0)) : (kd r).1 = t := by
  split at h1
  next q => exact q
  next => omega
theorem SM_mu {P : Nat → Prop} {s : Mem} {r j : Nat} {v : Int} (hr : P r) (hd : DY P s) (hk : fkd (obC r) j = 2 → 0 ≤ v → P v.toNat) : SM P s (mu s r j v) := by
  refine ⟨fun k hk j' => ?_, fun q k hq hf h0 => ?_⟩
  · have hn : ¬ (k = r ∧ j' = j) := fun z => hk (by rw [z.1]; exact hr)
    unfold mu
    rw [if_neg hn]
  · unfold mu at h0 ⊢
    split at h0
    next z => rw [if_pos z]; obtain ⟨rfl, rfl⟩ := z; exact hk hf h0
    next z => rw [if_neg z]; exact hd q k hq hf h0
theorem SM_mu9 {P : Nat → Prop} {s : Mem} {r j t : Nat} {v : Int} (hr : P r) (hd : DY P s) (h : (kd r).1 = t) (ht : t ≠ 0) : SM P s (mu s r j v) := SM_mu hr hd (fun z => by rw [fkd_arr h ht] at z; exact absurd z (by decide))
theorem SM_cp {P : Nat → Prop} {s : Mem} {a sp b dp n t : Nat} (hb : P b) (hd : DY P s) (h : (kd b).1 = t) (ht : t ≠ 0) : SM P s (cpM s a sp b dp n) := by
  refine ⟨fun k hk j => ?_, fun q k hq hf h0 => ?_⟩
  · have hn : ¬ (k = b ∧ dp ≤ j ∧ j < dp + n) := fun z => hk (by rw [z.1]; exact hb)
    unfold cpM
    rw [if_neg hn]
  · by_cases z : q = b
    · subst z
      rw [fkd_arr h ht] at hf
      exact absurd hf (by decide)
    · have e : cpM s a sp b dp n q k = s q k := by unfold cpM; rw [if_neg (fun y => z y.1)]
      rw [e] at h0 ⊢
      exact hd q k hq hf h0
def FQ (P : Nat → Prop) (s : Mem) (q : Cfg ⊕ Res) : Prop := match q with
  | .inl c => okL P c.2.1 ∧ okL P c.2.2.1 ∧ SM P s c.2.2.2
  | .inr r => SM P s r.2.2
def FRC (P : Nat → Prop) (C : Nat → List AV → Mem → Option Res) : Prop := ∀ j as s r, C j as s = some r → okL P as → DY P s → SM P s r.2.2
theorem doCall_fr {P : Nat → Prop} {C : Nat → List AV → Mem → Option Res} (hC : FRC P C) {j pc : Nat} {ls as st : List AV} {s : Mem} {q : Cfg ⊕ Res} (h : doCall C j pc ls as st s = some q) (hl : okL P ls) (ha : okL P as) (hst : okL P st) (hd : DY P s) : FQ P s q := by
  unfold doCall at h
  obtain ⟨-, h⟩ := if_s h
  split at h
  next =>
    split at h
    next v s' ee => cases h; exact ⟨hl, hst, hC _ _ _ _ ee ha hd⟩
    next => cases h
  next =>
    split at h
    next z s' ee => cases h; exact ⟨hl, okL_c (okP_0 _) hst, hC _ _ _ _ ee ha hd⟩
    next => cases h
theorem okL_rv {P : Nat → Prop} {l : List AV} (h : okL P l) : okL P l.reverse := fun v hv => h v (List.mem_reverse.mp hv)
theorem okL_tk {P : Nat → Prop} {l : List AV} {n : Nat} (h : okL P l) : okL P (l.take n) := fun v hv => h v (List.mem_of_mem_take hv)
theorem okL_dr {P : Nat → Prop} {l : List AV} {n : Nat} (h : okL P l) : okL P (l.drop n) := fun v hv => h v (List.mem_of_mem_drop hv)
set_option maxHeartbeats 4000000 in
theorem step_fr {P : Nat → Prop} (hP : RGN P) {C : Nat → List AV → Mem → Option Res} (hC : FRC P C) {y len pc : Nat} {i : Instr} {ls st : List AV} {s : Mem} {q : Cfg ⊕ Res} (hs : stepZ C y i len pc ls st s = some q) (hl : okL P ls) (hst : okL P st) (hd : DY P s) : FQ P s q := by
  cases i
  case iconst n =>
    unfold stepZ at hs
    dsimp only at hs
    cases hs
    exact ⟨hl, okL_c (okP_0 _) hst, SM.rf hd⟩
  case bipush n =>
    unfold stepZ at hs
    dsimp only at hs
    cases hs
    exact ⟨hl, okL_c (okP_0 _) hst, SM.rf hd⟩
  case sipush n =>
    unfold stepZ at hs
    dsimp only at hs
    cases hs
    exact ⟨hl, okL_c (okP_0 _) hst, SM.rf hd⟩
  case ldc idx =>
    unfold stepZ at hs
    dsimp only at hs
    cases hv : pcl (mC y) idx with
    | none => exact absurd (show (none : Option (Cfg ⊕ Res)) = some q by rw [← hs]; show _ = (match pcl (mC y) idx with | some v => nx (pc + 2) ls (aI v :: st) s | none => none); rw [hv]) (by simp)
    | some v =>
      replace hs : nx (pc + 2) ls (aI v :: st) s = some q := by rw [← hs]; show _ = (match pcl (mC y) idx with | some v => nx (pc + 2) ls (aI v :: st) s | none => none); rw [hv]
      cases hs
      exact ⟨hl, okL_c (okP_0 _) hst, SM.rf hd⟩
  case iload_n k =>
    unfold stepZ at hs
    dsimp only at hs
    obtain ⟨z, hz, h_1⟩ := gI_s hs
    cases h_1
    exact ⟨hl, okL_c (okP_0 _) hst, SM.rf hd⟩
  case iload k =>
    unfold stepZ at hs
    dsimp only at hs
    obtain ⟨z, hz, h_1⟩ := gI_s hs
    cases h_1
    exact ⟨hl, okL_c (okP_0 _) hst, SM.rf hd⟩
  case aload_n k =>
    unfold stepZ at hs
    dsimp only at hs
    obtain ⟨z, hz, h_1⟩ := gR_s hs
    cases h_1
    exact ⟨hl, okL_c (hl.g hz) hst, SM.rf hd⟩
  case aload k =>
    unfold stepZ at hs
    dsimp only at hs
    obtain ⟨z, hz, h_1⟩ := gR_s hs
    cases h_1
    exact ⟨hl, okL_c (hl.g hz) hst, SM.rf hd⟩
  case lload_n k =>
    unfold stepZ at hs
    dsimp only at hs
    obtain ⟨z, hz, h_1⟩ := gL_s hs
    cases h_1
    exact ⟨hl, okL_c (hl.g hz) hst, SM.rf hd⟩
  case istore_n k =>
    unfold stepZ at hs
    dsimp only at hs
    obtain ⟨z, st, rfl, h_1⟩ := pI_s hs
    obtain ⟨hi, h_2⟩ := stL_s h_1
    cases h_2
    exact ⟨hl.s (okP_0 _), hst.t, SM.rf hd⟩
  case istore k =>
    unfold stepZ at hs
    dsimp only at hs
    obtain ⟨z, st, rfl, h_1⟩ := pI_s hs
    obtain ⟨hi, h_2⟩ := stL_s h_1
    cases h_2
    exact ⟨hl.s (okP_0 _), hst.t, SM.rf hd⟩
  case astore_n k =>
    unfold stepZ at hs
    dsimp only at hs
    obtain ⟨z, st, rfl, h_1⟩ := pR_s hs
    obtain ⟨hi, h_2⟩ := stL_s h_1
    cases h_2
    exact ⟨hl.s hst.h, hst.t, SM.rf hd⟩
  case iinc k n =>
    unfold stepZ at hs
    dsimp only at hs
    obtain ⟨z, hz, h_1⟩ := gI_s hs
    obtain ⟨hi, h_2⟩ := stL_s h_1
    cases h_2
    exact ⟨hl.s (okP_0 _), hst, SM.rf hd⟩
  case iadd =>
    unfold stepZ at hs
    dsimp only at hs
    obtain ⟨z1, st, rfl, h_1⟩ := pI_s hs
    obtain ⟨z2, st, rfl, h_2⟩ := pI_s h_1
    cases h_2
    exact ⟨hl, okL_c (okP_0 _) hst.t.t, SM.rf hd⟩
  case isub =>
    unfold stepZ at hs
    dsimp only at hs
    obtain ⟨z1, st, rfl, h_1⟩ := pI_s hs
    obtain ⟨z2, st, rfl, h_2⟩ := pI_s h_1
    cases h_2
    exact ⟨hl, okL_c (okP_0 _) hst.t.t, SM.rf hd⟩
  case imul =>
    unfold stepZ at hs
    dsimp only at hs
    obtain ⟨z1, st, rfl, h_1⟩ := pI_s hs
    obtain ⟨z2, st, rfl, h_2⟩ := pI_s h_1
    cases h_2
    exact ⟨hl, okL_c (okP_0 _) hst.t.t, SM.rf hd⟩
  case iand =>
    unfold stepZ at hs
    dsimp only at hs
    obtain ⟨z1, st, rfl, h_1⟩ := pI_s hs
    obtain ⟨z2, st, rfl, h_2⟩ := pI_s h_1
    cases h_2
    exact ⟨hl, okL_c (okP_0 _) hst.t.t, SM.rf hd⟩
  case ior =>
    unfold stepZ at hs
    dsimp only at hs
    obtain ⟨z1, st, rfl, h_1⟩ := pI_s hs
    obtain ⟨z2, st, rfl, h_2⟩ := pI_s h_1
    cases h_2
    exact ⟨hl, okL_c (okP_0 _) hst.t.t, SM.rf hd⟩
  case ixor =>
    unfold stepZ at hs
    dsimp only at hs
    obtain ⟨z1, st, rfl, h_1⟩ := pI_s hs
    obtain ⟨z2, st, rfl, h_2⟩ := pI_s h_1
    cases h_2
    exact ⟨hl, okL_c (okP_0 _) hst.t.t, SM.rf hd⟩
  case ishl =>
    unfold stepZ at hs
    dsimp only at hs
    obtain ⟨z1, st, rfl, h_1⟩ := pI_s hs
    obtain ⟨z2, st, rfl, h_2⟩ := pI_s h_1
    cases h_2
    exact ⟨hl, okL_c (okP_0 _) hst.t.t, SM.rf hd⟩
  case ishr =>
    unfold stepZ at hs
    dsimp only at hs
    obtain ⟨z1, st, rfl, h_1⟩ := pI_s hs
    obtain ⟨z2, st, rfl, h_2⟩ := pI_s h_1
    cases h_2
    exact ⟨hl, okL_c (okP_0 _) hst.t.t, SM.rf hd⟩
  case irem =>
    unfold stepZ at hs
    dsimp only at hs
    obtain ⟨z1, st, rfl, h_1⟩ := pI_s hs
    obtain ⟨z2, st, rfl, h_2⟩ := pI_s h_1
    obtain ⟨h0, h_3⟩ := if_s h_2
    cases h_3
    exact ⟨hl, okL_c (okP_0 _) hst.t.t, SM.rf hd⟩
  case lushr =>
    unfold stepZ at hs
    dsimp only at hs
    obtain ⟨z1, st, rfl, h_1⟩ := pI_s hs
    obtain ⟨z2, st, rfl, h_2⟩ := pL_s h_1
    cases h_2
    exact ⟨hl, okL_c (okP_2 _) hst.t.t, SM.rf hd⟩
  case lshr =>
    unfold stepZ at hs
    dsimp only at hs
    obtain ⟨z1, st, rfl, h_1⟩ := pI_s hs
    obtain ⟨z2, st, rfl, h_2⟩ := pL_s h_1
    cases h_2
    exact ⟨hl, okL_c (okP_2 _) hst.t.t, SM.rf hd⟩
  case l2i =>
    unfold stepZ at hs
    dsimp only at hs
    obtain ⟨z1, st, rfl, h_1⟩ := pL_s hs
    cases h_1
    exact ⟨hl, okL_c (okP_0 _) hst.t, SM.rf hd⟩
  case i2c =>
    unfold stepZ at hs
    dsimp only at hs
    obtain ⟨z1, st, rfl, h_1⟩ := pI_s hs
    cases h_1
    exact ⟨hl, okL_c (okP_0 _) hst.t, SM.rf hd⟩
  case pop =>
    unfold stepZ at hs
    dsimp only at hs
    obtain ⟨z1, st, rfl, h_1⟩ := pI_s hs
    cases h_1
    exact ⟨hl, hst.t, SM.rf hd⟩
  case i2d =>
    unfold stepZ at hs
    dsimp only at hs
    obtain ⟨z1, st, rfl, h_1⟩ := pI_s hs
    cases h_1
    exact ⟨hl, okL_c (okP_3 _) hst.t, SM.rf hd⟩
  case dconst n =>
    match n, hs with
    | 0, hs =>
      replace hs : nx (pc + 1) ls (aD dz0 :: st) s = some q := hs
      cases hs
      exact ⟨hl, okL_c (okP_3 _) hst, SM.rf hd⟩
    | 1, hs => exact absurd hs (fun h => by unfold stepZ at h; cases h)
  case ddiv =>
    unfold stepZ at hs
    dsimp only at hs
    obtain ⟨b, st, rfl, h_1⟩ := pD_s hs
    obtain ⟨a, st, rfl, h_2⟩ := pD_s h_1
    obtain ⟨hn, h_3⟩ := dd_s h_2
    cases h_3
    exact ⟨hl, okL_c (okP_3 _) hst.t.t, SM.rf hd⟩
  case dup =>
    unfold stepZ at hs
    dsimp only at hs
    split at hs
    next z r => cases hs; exact ⟨hl, okL_c (okP_0 _) hst, SM.rf hd⟩
    next z r => cases hs; exact ⟨hl, okL_c hst.h hst, SM.rf hd⟩
    next => cases hs
  case dup2 =>
    unfold stepZ at hs
    dsimp only at hs
    split at hs
    next z v r => cases hs; exact ⟨hl, okL_c (okP_0 _) (okL_c hst.t.h hst), SM.rf hd⟩
    next => cases hs
  case goto o =>
    unfold stepZ at hs
    dsimp only at hs
    cases hs
    exact ⟨hl, hst, SM.rf hd⟩
  case ifCond cd o =>
    cases cd
    case eq =>
      obtain ⟨z1, st, rfl, h_1⟩ := pI_s hs
      replace h_1 : (if z1 = 0 then nx (tg pc o) ls st s else nx (pc + 3) ls st s) = some q := h_1
      by_cases z : z1 = 0
      · rw [if_pos z] at h_1; cases h_1; exact ⟨hl, hst.t, SM.rf hd⟩
      · rw [if_neg z] at h_1; cases h_1; exact ⟨hl, hst.t, SM.rf hd⟩
    case ne =>
      obtain ⟨z1, st, rfl, h_1⟩ := pI_s hs
      replace h_1 : (if z1 = 0 then nx (pc + 3) ls st s else nx (tg pc o) ls st s) = some q := h_1
      by_cases z : z1 = 0
      · rw [if_pos z] at h_1; cases h_1; exact ⟨hl, hst.t, SM.rf hd⟩
      · rw [if_neg z] at h_1; cases h_1; exact ⟨hl, hst.t, SM.rf hd⟩
    case lt =>
      obtain ⟨z1, st, rfl, h_1⟩ := pI_s hs
      replace h_1 : (if z1 < 0 then nx (tg pc o) ls st s else nx (pc + 3) ls st s) = some q := h_1
      by_cases z : z1 < 0
      · rw [if_pos z] at h_1; cases h_1; exact ⟨hl, hst.t, SM.rf hd⟩
      · rw [if_neg z] at h_1; cases h_1; exact ⟨hl, hst.t, SM.rf hd⟩
    case ge =>
      obtain ⟨z1, st, rfl, h_1⟩ := pI_s hs
      replace h_1 : (if z1 < 0 then nx (pc + 3) ls st s else nx (tg pc o) ls st s) = some q := h_1
      by_cases z : z1 < 0
      · rw [if_pos z] at h_1; cases h_1; exact ⟨hl, hst.t, SM.rf hd⟩
      · rw [if_neg z] at h_1; cases h_1; exact ⟨hl, hst.t, SM.rf hd⟩
    case gt =>
      obtain ⟨z1, st, rfl, h_1⟩ := pI_s hs
      replace h_1 : (if 0 < z1 then nx (tg pc o) ls st s else nx (pc + 3) ls st s) = some q := h_1
      by_cases z : 0 < z1
      · rw [if_pos z] at h_1; cases h_1; exact ⟨hl, hst.t, SM.rf hd⟩
      · rw [if_neg z] at h_1; cases h_1; exact ⟨hl, hst.t, SM.rf hd⟩
    case le =>
      obtain ⟨z1, st, rfl, h_1⟩ := pI_s hs
      replace h_1 : (if 0 < z1 then nx (pc + 3) ls st s else nx (tg pc o) ls st s) = some q := h_1
      by_cases z : 0 < z1
      · rw [if_pos z] at h_1; cases h_1; exact ⟨hl, hst.t, SM.rf hd⟩
      · rw [if_neg z] at h_1; cases h_1; exact ⟨hl, hst.t, SM.rf hd⟩
  case if_icmp cd o =>
    cases cd
    case eq =>
      obtain ⟨z1, st, rfl, h_1⟩ := pI_s hs
      obtain ⟨z2, st, rfl, h_2⟩ := pI_s h_1
      replace h_2 : (if z2 = z1 then nx (tg pc o) ls st s else nx (pc + 3) ls st s) = some q := h_2
      by_cases z : z2 = z1
      · rw [if_pos z] at h_2; cases h_2; exact ⟨hl, hst.t.t, SM.rf hd⟩
      · rw [if_neg z] at h_2; cases h_2; exact ⟨hl, hst.t.t, SM.rf hd⟩
    case ne =>
      obtain ⟨z1, st, rfl, h_1⟩ := pI_s hs
      obtain ⟨z2, st, rfl, h_2⟩ := pI_s h_1
      replace h_2 : (if z2 = z1 then nx (pc + 3) ls st s else nx (tg pc o) ls st s) = some q := h_2
      by_cases z : z2 = z1
      · rw [if_pos z] at h_2; cases h_2; exact ⟨hl, hst.t.t, SM.rf hd⟩
      · rw [if_neg z] at h_2; cases h_2; exact ⟨hl, hst.t.t, SM.rf hd⟩
    case lt =>
      obtain ⟨z1, st, rfl, h_1⟩ := pI_s hs
      obtain ⟨z2, st, rfl, h_2⟩ := pI_s h_1
      replace h_2 : (if z2 < z1 then nx (tg pc o) ls st s else nx (pc + 3) ls st s) = some q := h_2
      by_cases z : z2 < z1
      · rw [if_pos z] at h_2; cases h_2; exact ⟨hl, hst.t.t, SM.rf hd⟩
      · rw [if_neg z] at h_2; cases h_2; exact ⟨hl, hst.t.t, SM.rf hd⟩
    case ge =>
      obtain ⟨z1, st, rfl, h_1⟩ := pI_s hs
      obtain ⟨z2, st, rfl, h_2⟩ := pI_s h_1
      replace h_2 : (if z2 < z1 then nx (pc + 3) ls st s else nx (tg pc o) ls st s) = some q := h_2
      by_cases z : z2 < z1
      · rw [if_pos z] at h_2; cases h_2; exact ⟨hl, hst.t.t, SM.rf hd⟩
      · rw [if_neg z] at h_2; cases h_2; exact ⟨hl, hst.t.t, SM.rf hd⟩
    case gt =>
      obtain ⟨z1, st, rfl, h_1⟩ := pI_s hs
      obtain ⟨z2, st, rfl, h_2⟩ := pI_s h_1
      replace h_2 : (if z1 < z2 then nx (tg pc o) ls st s else nx (pc + 3) ls st s) = some q := h_2
      by_cases z : z1 < z2
      · rw [if_pos z] at h_2; cases h_2; exact ⟨hl, hst.t.t, SM.rf hd⟩
      · rw [if_neg z] at h_2; cases h_2; exact ⟨hl, hst.t.t, SM.rf hd⟩
    case le =>
      obtain ⟨z1, st, rfl, h_1⟩ := pI_s hs
      obtain ⟨z2, st, rfl, h_2⟩ := pI_s h_1
      replace h_2 : (if z1 < z2 then nx (pc + 3) ls st s else nx (tg pc o) ls st s) = some q := h_2
      by_cases z : z1 < z2
      · rw [if_pos z] at h_2; cases h_2; exact ⟨hl, hst.t.t, SM.rf hd⟩
      · rw [if_neg z] at h_2; cases h_2; exact ⟨hl, hst.t.t, SM.rf hd⟩
  case tableswitch df lo hi offs =>
    obtain ⟨a, st, rfl, h_1⟩ := pI_s hs
    replace h_1 : (if a < lo ∨ hi < a then nx (tg pc df) ls st s else match offs[(a - lo).toNat]? with | some o => nx (tg pc o) ls st s | none => none) = some q := h_1
    by_cases z : a < lo ∨ hi < a
    · rw [if_pos z] at h_1; cases h_1; exact ⟨hl, hst.t, SM.rf hd⟩
    · rw [if_neg z] at h_1
      cases hz : offs[(a - lo).toNat]? with
      | none => rw [hz] at h_1; cases h_1
      | some o => rw [hz] at h_1; cases h_1; exact ⟨hl, hst.t, SM.rf hd⟩
  case lookupswitch df ps =>
    obtain ⟨a, st, rfl, h_1⟩ := pI_s hs
    cases h_1
    exact ⟨hl, hst.t, SM.rf hd⟩
  case arraylength =>
    unfold stepZ at hs
    dsimp only at hs
    obtain ⟨r1, st, rfl, h_1⟩ := pR_s hs
    obtain ⟨h0, h_2⟩ := if_s h_1
    cases h_2
    exact ⟨hl, okL_c (okP_0 _) hst.t, SM.rf hd⟩
  case iaload =>
    unfold stepZ at hs
    dsimp only at hs
    obtain ⟨z1, st, rfl, h_1⟩ := pI_s hs
    obtain ⟨r2, st, rfl, h_2⟩ := pR_s h_1
    obtain ⟨h0, h_3⟩ := if_s h_2
    cases h_3
    exact ⟨hl, okL_c (okP_0 _) hst.t.t, SM.rf hd⟩
  case baload =>
    unfold stepZ at hs
    dsimp only at hs
    obtain ⟨z1, st, rfl, h_1⟩ := pI_s hs
    obtain ⟨r2, st, rfl, h_2⟩ := pR_s h_1
    obtain ⟨h0, h_3⟩ := if_s h_2
    cases h_3
    exact ⟨hl, okL_c (okP_0 _) hst.t.t, SM.rf hd⟩
  case caload =>
    unfold stepZ at hs
    dsimp only at hs
    obtain ⟨z1, st, rfl, h_1⟩ := pI_s hs
    obtain ⟨r2, st, rfl, h_2⟩ := pR_s h_1
    obtain ⟨h0, h_3⟩ := if_s h_2
    cases h_3
    exact ⟨hl, okL_c (okP_0 _) hst.t.t, SM.rf hd⟩
  case aaload =>
    unfold stepZ at hs
    dsimp only at hs
    obtain ⟨z1, st, rfl, h_1⟩ := pI_s hs
    obtain ⟨r2, st, rfl, h_2⟩ := pR_s h_1
    obtain ⟨h0, h_3⟩ := if_s h_2
    cases h_3
    exact ⟨hl, okL_c (okP_R (hP.2 _ _ (okP_r hst.t.h) h0.1 h0.2)) hst.t.t, SM.rf hd⟩
  case iastore =>
    unfold stepZ at hs
    dsimp only at hs
    obtain ⟨z1, st, rfl, h_1⟩ := pI_s hs
    obtain ⟨z2, st, rfl, h_2⟩ := pI_s h_1
    obtain ⟨r3, st, rfl, h_3⟩ := pR_s h_2
    obtain ⟨h0, h_4⟩ := if_s h_3
    cases h_4
    exact ⟨hl, hst.t.t.t, SM_mu9 (okP_r hst.t.t.h) hd (aN_0 1 h0.1 h0.2) (by decide)⟩
  case bastore =>
    unfold stepZ at hs
    dsimp only at hs
    obtain ⟨z1, st, rfl, h_1⟩ := pI_s hs
    obtain ⟨z2, st, rfl, h_2⟩ := pI_s h_1
    obtain ⟨r3, st, rfl, h_3⟩ := pR_s h_2
    obtain ⟨h0, h_4⟩ := if_s h_3
    cases h_4
    exact ⟨hl, hst.t.t.t, SM_mu9 (okP_r hst.t.t.h) hd (aN_0 2 h0.1 h0.2.1) (by decide)⟩
  case castore =>
    unfold stepZ at hs
    dsimp only at hs
    obtain ⟨z1, st, rfl, h_1⟩ := pI_s hs
    obtain ⟨z2, st, rfl, h_2⟩ := pI_s h_1
    obtain ⟨r3, st, rfl, h_3⟩ := pR_s h_2
    obtain ⟨h0, h_4⟩ := if_s h_3
    cases h_4
    exact ⟨hl, hst.t.t.t, SM_mu9 (okP_r hst.t.t.h) hd (aN_0 3 h0.1 h0.2.1) (by decide)⟩
  case getfield idx =>
    unfold stepZ at hs
    dsimp only at hs
    obtain ⟨r, st, rfl, h_1⟩ := pR_s hs
    cases hv : pfl (mC y) idx with
    | none => rw [hv] at h_1; cases h_1
    | some ck =>
      obtain ⟨ci, k⟩ := ck
      rw [hv] at h_1
      dsimp only at h_1
      obtain ⟨h0, h_2⟩ := if_s h_1
      have hr := okP_r hst.h
      unfold fldV at h_2
      split at h_2
      next v hv2 =>
        split at hv2
        next => cases hv2; cases h_2; exact ⟨hl, okL_c (okP_0 _) hst.t, SM.rf hd⟩
        next => cases hv2; cases h_2; exact ⟨hl, okL_c (okP_0 _) hst.t, SM.rf hd⟩
        next hk =>
          obtain ⟨h1, hv3⟩ := if_s hv2
          cases hv3
          cases h_2
          exact ⟨hl, okL_c (fun _ => hd r k hr (by rw [h0]; exact hk) h1) hst.t, SM.rf hd⟩
        next hk => cases hv2; cases h_2; exact ⟨hl, okL_c (okP_R (hP.1 r k hr (by rw [h0]; exact hk))) hst.t, SM.rf hd⟩
        next => cases hv2
      next => cases h_2
  case putfield idx =>
    unfold stepZ at hs
    dsimp only at hs
    cases hv : pfl (mC y) idx with
    | none => rw [hv] at hs; cases hs
    | some ck =>
      obtain ⟨ci, k⟩ := ck
      rw [hv] at hs
      dsimp only at hs
      split at hs
      next hz =>
        obtain ⟨v, st, rfl, h_4⟩ := pI_s hs
        obtain ⟨r, st, rfl, h_5⟩ := pR_s h_4
        obtain ⟨h0, h_6⟩ := if_s h_5
        cases h_6
        exact ⟨hl, hst.t.t, SM_mu (okP_r hst.t.h) hd (fun z => by rw [h0, hz] at z; exact absurd z (by decide))⟩
      next hz =>
        obtain ⟨v, st, rfl, h_4⟩ := pI_s hs
        obtain ⟨r, st, rfl, h_5⟩ := pR_s h_4
        obtain ⟨h0, h_6⟩ := if_s h_5
        cases h_6
        exact ⟨hl, hst.t.t, SM_mu (okP_r hst.t.h) hd (fun z => by rw [h0.1, hz] at z; exact absurd z (by decide))⟩
      next hz =>
        obtain ⟨v, st, rfl, h_7⟩ := pR_s hs
        obtain ⟨r, st, rfl, h_8⟩ := pR_s h_7
        obtain ⟨h0, h_9⟩ := if_s h_8
        cases h_9
        exact ⟨hl, hst.t.t, SM_mu (okP_r hst.t.h) hd (fun _ _ => by rw [Int.toNat_natCast]; exact okP_r hst.h)⟩
      next => cases hs
  case new idx =>
    unfold stepZ at hs
    dsimp only at hs
    cases hv : pxl (mC y) idx with
    | none => rw [hv] at hs; cases hs
    | some t => rw [hv] at hs; cases hs; exact SM.rf hd
  case ireturn =>
    unfold stepZ at hs
    dsimp only at hs
    split at hs
    next z => obtain ⟨hz, h_1⟩ := if_s hs; cases h_1; exact SM.rf hd
    next => cases hs
  case dreturn =>
    unfold stepZ at hs
    dsimp only at hs
    split at hs
    next z => obtain ⟨hz, h_1⟩ := if_s hs; cases h_1; exact SM.rf hd
    next => cases hs
  case return_ =>
    unfold stepZ at hs
    dsimp only at hs
    split at hs
    next => obtain ⟨hz, h_1⟩ := if_s hs; cases h_1; exact SM.rf hd
    next => cases hs
  case invokevirtual idx =>
    unfold stepZ at hs
    dsimp only at hs
    cases hv : pml (mC y) idx with
    | none => rw [hv] at hs; cases hs
    | some j =>
      rw [hv] at hs
      obtain ⟨-, h_1⟩ := if_s hs
      exact doCall_fr hC h_1 hl (okL_rv (okL_tk hst)) (okL_dr hst) hd
  case invokestatic idx =>
    unfold stepZ at hs
    dsimp only at hs
    cases hv : pml (mC y) idx with
    | none => rw [hv] at hs; cases hs
    | some j =>
      rw [hv] at hs
      dsimp only at hs
      split at hs
      next hj1 =>
        obtain ⟨n, st, rfl, h_1⟩ := pI_s hs
        obtain ⟨dp, st, rfl, h_2⟩ := pI_s h_1
        obtain ⟨b, st, rfl, h_3⟩ := pR_s h_2
        obtain ⟨sp, st, rfl, h_4⟩ := pI_s h_3
        obtain ⟨a, st, rfl, h_5⟩ := pR_s h_4
        obtain ⟨h0, h_6⟩ := if_s h_5
        cases h_6
        exact ⟨hl, hst.t.t.t.t.t, SM_cp (okP_r hst.t.t.h) hd (aN_0 1 (Int.le_refl 0) h0.2.2.2.2.2.2.1) (by decide)⟩
      next hj1 =>
        split at hs
        next hj2 =>
          obtain ⟨b, st, rfl, h_1⟩ := pI_s hs
          obtain ⟨a, st, rfl, h_2⟩ := pI_s h_1
          obtain ⟨h0, h_3⟩ := if_s h_2
          cases h_3
          exact ⟨hl, okL_c (okP_0 _) hst.t.t, SM.rf hd⟩
        next hj2 =>
          split at hs
          next hj3 =>
            obtain ⟨b, st, rfl, h_1⟩ := pI_s hs
            obtain ⟨a, st, rfl, h_2⟩ := pI_s h_1
            obtain ⟨h0, h_3⟩ := if_s h_2
            cases h_3
            exact ⟨hl, okL_c (okP_0 _) hst.t.t, SM.rf hd⟩
          next hj3 =>
            obtain ⟨-, h_1⟩ := if_s hs
            exact doCall_fr hC h_1 hl (okL_rv (okL_tk hst)) (okL_dr hst) hd
  all_goals (unfold stepZ at hs; cases hs)
theorem run_fr {P : Nat → Prop} (hP : RGN P) {C : Nat → List AV → Mem → Option Res} (hC : FRC P C) {y : Nat} : ∀ (n : Nat) (c : Cfg) (r : Res), runZ C y n c = some r → okL P c.2.1 → okL P c.2.2.1 → DY P c.2.2.2 → SM P c.2.2.2 r.2.2 := by
  intro n
  induction n with
  | zero => intro c r h; cases h
  | succ n ih =>
    intro c r h hl hst hd
    unfold runZ at h
    cases hdc : decode (mB y) c.1 with
    | error x => rw [hdc] at h; cases h
    | ok t =>
      obtain ⟨i, len⟩ := t
      rw [hdc] at h
      dsimp only at h
      obtain ⟨hk, h⟩ := if_s h
      cases hs : stepZ C y i len c.1 c.2.1 c.2.2.1 c.2.2.2 with
      | none => rw [hs] at h; cases h
      | some q =>
        rw [hs] at h
        have hq := step_fr hP hC hs hl hst hd
        cases q with
        | inl c' => exact hq.2.2.tr (ih c' r h hq.1 hq.2.1 hq.2.2.2)
        | inr r' => cases h; exact hq
theorem entry_fr {P : Nat → Prop} {y : Nat} {as : List AV} (h : okL P as) : okL P (entry y as) := fun v hv => by
  unfold entry at hv
  rcases List.mem_append.mp hv with q | q
  · unfold flat at q
    obtain ⟨a, ha, hq⟩ := List.mem_flatMap.mp q
    split at hq
    · simp only [List.mem_cons, List.not_mem_nil, or_false] at hq
      rcases hq with rfl | rfl
      · exact h _ ha
      · exact okP_U
    · simp only [List.mem_cons, List.not_mem_nil, or_false] at hq
      subst hq
      exact h _ ha
  · rw [List.eq_of_mem_replicate q]
    exact okP_U
/-- a call -/
theorem Zc_fr {P : Nat → Prop} (hP : RGN P) : ∀ d, FRC P (Zc d) := by
  intro d
  induction d with
  | zero => intro j as s r h; cases h
  | succ d ih =>
    intro j as s r h ha hd
    unfold Zc at h
    obtain ⟨hao, h⟩ := if_s h
    obtain ⟨n, hn⟩ := Ex_some.mp h
    exact run_fr hP ih n _ r hn (entry_fr ha) okL_n hd
/-- the reference's cells, the class's cells -/
def LOW (k : Nat) : Prop := k < 56
def HIG (k : Nat) : Prop := 56 ≤ k
theorem rgn_f : ((List.range lyt.length).all (fun r => (List.range 80).all (fun k => !(fkd (obC r) k == 3) || (decide (r < 56) == decide (fcn r k < 56))))) = true := by decide +kernel
theorem rgn_r : ((List.range lyt.length).all (fun r => (List.range 8).all (fun i => !(decide ((i : Int) < aN4 r)) || (decide (r < 56) == decide (rcn r i < 56))) && decide (aN4 r ≤ 8))) = true := by decide +kernel
theorem fkt_80 : fkt.all (fun l => decide (l.length ≤ 80)) = true := by decide +kernel
theorem fkd_80 {ci k : Nat} (h : fkd ci k = 3) : k < 80 := by
  rcases Nat.lt_or_ge k 80 with q | q
  · exact q
  · exfalso
    unfold fkd at h
    have hl : (fkt.getD ci []).length ≤ 80 := by
      rw [List.getD_eq_getElem?_getD]
      cases e : fkt[ci]? with
      | none => exact Nat.zero_le _
      | some l => exact of_decide_eq_true (List.all_eq_true.mp fkt_80 l (List.mem_of_getElem? e))
    rw [List.getD_eq_getElem?_getD (i := k), List.getElem?_eq_none (by omega)] at h
    exact absurd h (by decide)
theorem obC_lt {r k : Nat} (h : fkd (obC r) k = 3) : r < lyt.length := by
  rcases Nat.lt_or_ge r lyt.length with q | q
  · exact q
  · exfalso
    have e : kd r = (9, 0) := by unfold kd; rw [List.getD_eq_getElem?_getD, List.getElem?_eq_none q]; rfl
    rw [fkd_arr (t := 9) (by rw [e]) (by decide)] at h
    exact absurd h (by decide)
theorem fcn_side {r k : Nat} (h : fkd (obC r) k = 3) : r < 56 ↔ fcn r k < 56 := by
  have h1 := List.all_eq_true.mp (List.all_eq_true.mp rgn_f r (List.mem_range.mpr (obC_lt h))) k (List.mem_range.mpr (fkd_80 h))
  rw [h] at h1
  simpa using h1
theorem rcn_side {r : Nat} {i : Int} (h0 : 0 ≤ i) (h : i < aN4 r) : r < 56 ↔ rcn r i.toNat < 56 := by
  have hr : r < lyt.length := kd_lt (aN_0 4 h0 h) (by decide)
  have h1 := List.all_eq_true.mp rgn_r r (List.mem_range.mpr hr)
  simp only [Bool.and_eq_true, decide_eq_true_eq] at h1
  obtain ⟨n, rfl⟩ := Int.eq_ofNat_of_zero_le h0
  have h2 := List.all_eq_true.mp h1.1 n (List.mem_range.mpr (by omega))
  rw [show decide ((n : Int) < aN4 r) = true from decide_eq_true h] at h2
  rw [Int.toNat_natCast]
  simpa using h2
theorem rgn_low : RGN LOW := ⟨fun r k hr hk => (fcn_side hk).mp hr, fun r i hr h0 h => (rcn_side h0 h).mp hr⟩
theorem rgn_hig : RGN HIG := ⟨fun r k hr hk => by unfold HIG at *; have := fcn_side hk; omega, fun r i hr h0 h => by unfold HIG at *; have := rcn_side h0 h; omega⟩
theorem fk2_low : ((List.range 56).all (fun r => (List.range 80).all (fun k => !(fkd (obC r) k == 2)))) = true := by decide +kernel
theorem fkd_80' {ci k : Nat} (h : fkd ci k = 2) : k < 80 := by
  rcases Nat.lt_or_ge k 80 with q | q
  · exact q
  · exfalso
    unfold fkd at h
    have hl : (fkt.getD ci []).length ≤ 80 := by
      rw [List.getD_eq_getElem?_getD]
      cases e : fkt[ci]? with
      | none => exact Nat.zero_le _
      | some l => exact of_decide_eq_true (List.all_eq_true.mp fkt_80 l (List.mem_of_getElem? e))
    rw [List.getD_eq_getElem?_getD (i := k), List.getElem?_eq_none (by omega)] at h
    exact absurd h (by decide)
/-- the reference holds no cell that changes -/
theorem dy_low (s : Mem) : DY LOW s := fun r k hr hk _ => by
  have h1 := List.all_eq_true.mp (List.all_eq_true.mp fk2_low r (List.mem_range.mpr hr)) k (List.mem_range.mpr (fkd_80' hk))
  rw [hk] at h1
  exact absurd h1 (by decide)
/-- what the reference does, the class's cells don't see -/
theorem low_fr {d j : Nat} {as : List AV} {s : Mem} {r : Res} (h : Zc d j as s = some r) (ha : okL LOW as) : ∀ k, 56 ≤ k → ∀ i, r.2.2 k i = s k i := fun k hk i => (Zc_fr rgn_low d _ _ _ _ h ha (dy_low s)).1 k (by unfold LOW; omega) i
/-- what the class does, the reference's cells don't see -/
theorem hig_fr {d j : Nat} {as : List AV} {s : Mem} {r : Res} (h : Zc d j as s = some r) (ha : okL HIG as) (hd : DY HIG s) : (∀ k, k < 56 → ∀ i, r.2.2 k i = s k i) ∧ DY HIG r.2.2 := ⟨fun k hk i => (Zc_fr rgn_hig d _ _ _ _ h ha hd).1 k (by unfold HIG; omega) i, (Zc_fr rgn_hig d _ _ _ _ h ha hd).2⟩

