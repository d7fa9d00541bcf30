/-! how deep the stack is in the class's own methods (printed by sdepth.py) -/
def nxs (y pc : Nat) (i : Instr) (n : Nat) : Option (List (Nat × Nat)) := match i with
  | .aload_n _ => some [(pc + 1, n + 1)]
  | .iload_n _ => some [(pc + 1, n + 1)]
  | .lload_n _ => some [(pc + 1, n + 1)]
  | .iconst _ => some [(pc + 1, n + 1)]
  | .dconst _ => some [(pc + 1, n + 1)]
  | .iload _ => some [(pc + 2, n + 1)]
  | .bipush _ => some [(pc + 2, n + 1)]
  | .sipush _ => some [(pc + 3, n + 1)]
  | .astore_n _ => some [(pc + 1, n - 1)]
  | .istore_n _ => some [(pc + 1, n - 1)]
  | .istore _ => some [(pc + 2, n - 1)]
  | .iinc _ _ => some [(pc + 3, n)]
  | .iadd => some [(pc + 1, n - 1)]
  | .isub => some [(pc + 1, n - 1)]
  | .iand => some [(pc + 1, n - 1)]
  | .ishl => some [(pc + 1, n - 1)]
  | .lushr => some [(pc + 1, n - 1)]
  | .ddiv => some [(pc + 1, n - 1)]
  | .l2i => some [(pc + 1, n)]
  | .i2c => some [(pc + 1, n)]
  | .i2d => some [(pc + 1, n)]
  | .dup => some [(pc + 1, n + 1)]
  | .goto o => some [(tg pc o, n)]
  | .ifCond _ o => some [(tg pc o, n - 1), (pc + 3, n - 1)]
  | .if_icmp _ o => some [(tg pc o, n - 2), (pc + 3, n - 2)]
  | .tableswitch d _ _ offs => some ((tg pc d, n - 1) :: offs.toList.map (fun o => (tg pc o, n - 1)))
  | .iaload => some [(pc + 1, n - 1)]
  | .baload => some [(pc + 1, n - 1)]
  | .castore => some [(pc + 1, n - 3)]
  | .getfield _ => some [(pc + 3, n)]
  | .putfield _ => some [(pc + 3, n - 2)]
  | .invokevirtual idx => match pml (mC y) idx with
    | some j => some [(pc + 3, n - mNa j + (if mRt j = 0 then 0 else 1))]
    | none => none
  | .invokestatic idx => match pml (mC y) idx with
    | some j => if 60 ≤ j ∧ j ≤ 62 then none else some [(pc + 3, n - mNa j + (if mRt j = 0 then 0 else 1))]
    | none => none
  | .ireturn => some []
  | .return_ => some []
  | .dreturn => some []
  | .new _ => if n = 0 then some [] else none
  | _ => none
theorem doCall_len {C : Nat → List AV → Mem → Option Res} {j pc : Nat} {ls as st : List AV} {s : Mem} {c' : Cfg} (h : doCall C j pc ls as st s = some (.inl c')) : c'.1 = pc + 3 ∧ c'.2.2.1.length = st.length + (if mRt j = 0 then 0 else 1) := by
  unfold doCall at h
  obtain ⟨-, h⟩ := if_s h
  split at h
  next hr =>
    split at h
    next v s' ee => cases h; rw [if_pos hr]; exact ⟨rfl, rfl⟩
    next => cases h
  next hr =>
    split at h
    next z s' ee => cases h; rw [if_neg hr]; exact ⟨rfl, rfl⟩
    next => cases h
set_option maxHeartbeats 4000000 in
theorem step_len {C : Nat → List AV → Mem → Option Res} {y len pc : Nat} {i : Instr} {ls st : List AV} {s : Mem} {c' : Cfg} (hs : stepZ C y i len pc ls st s = some (.inl c')) {L : List (Nat × Nat)} (hL : nxs y pc i st.length = some L) : (c'.1, c'.2.2.1.length) ∈ L := by
  cases i
  case iconst n =>
    unfold stepZ at hs
    dsimp only at hs
    cases hs
    cases hL
    exact List.mem_cons_self
  case bipush n =>
    unfold stepZ at hs
    dsimp only at hs
    cases hs
    cases hL
    exact List.mem_cons_self
  case sipush n =>
    unfold stepZ at hs
    dsimp only at hs
    cases hs
    cases hL
    exact List.mem_cons_self
  case iload_n k =>
    unfold stepZ at hs
    dsimp only at hs
    obtain ⟨z, hz, h_1⟩ := gI_s hs
    cases h_1
    cases hL
    exact List.mem_cons_self
  case iload k =>
    unfold stepZ at hs
    dsimp only at hs
    obtain ⟨z, hz, h_1⟩ := gI_s hs
    cases h_1
    cases hL
    exact List.mem_cons_self
  case aload_n k =>
    unfold stepZ at hs
    dsimp only at hs
    obtain ⟨z, hz, h_1⟩ := gR_s hs
    cases h_1
    cases hL
    exact List.mem_cons_self
  case lload_n k =>
    unfold stepZ at hs
    dsimp only at hs
    obtain ⟨z, hz, h_1⟩ := gL_s hs
    cases h_1
    cases hL
    exact List.mem_cons_self
  case istore_n k =>
    unfold stepZ at hs
    dsimp only at hs
    obtain ⟨z, st, rfl, h_1⟩ := pI_s hs
    obtain ⟨hi, h_2⟩ := stL_s h_1
    cases h_2
    cases hL
    exact List.mem_cons_self
  case istore k =>
    unfold stepZ at hs
    dsimp only at hs
    obtain ⟨z, st, rfl, h_1⟩ := pI_s hs
    obtain ⟨hi, h_2⟩ := stL_s h_1
    cases h_2
    cases hL
    exact List.mem_cons_self
  case astore_n k =>
    unfold stepZ at hs
    dsimp only at hs
    obtain ⟨z, st, rfl, h_1⟩ := pR_s hs
    obtain ⟨hi, h_2⟩ := stL_s h_1
    cases h_2
    cases hL
    exact List.mem_cons_self
  case iinc k n =>
    unfold stepZ at hs
    dsimp only at hs
    obtain ⟨z, hz, h_1⟩ := gI_s hs
    obtain ⟨hi, h_2⟩ := stL_s h_1
    cases h_2
    cases hL
    exact List.mem_cons_self
  case iadd =>
    unfold stepZ at hs
    dsimp only at hs
    obtain ⟨z1, st, rfl, h_1⟩ := pI_s hs
    obtain ⟨z2, st, rfl, h_2⟩ := pI_s h_1
    cases h_2
    cases hL
    exact List.mem_cons_self
  case isub =>
    unfold stepZ at hs
    dsimp only at hs
    obtain ⟨z1, st, rfl, h_1⟩ := pI_s hs
    obtain ⟨z2, st, rfl, h_2⟩ := pI_s h_1
    cases h_2
    cases hL
    exact List.mem_cons_self
  case iand =>
    unfold stepZ at hs
    dsimp only at hs
    obtain ⟨z1, st, rfl, h_1⟩ := pI_s hs
    obtain ⟨z2, st, rfl, h_2⟩ := pI_s h_1
    cases h_2
    cases hL
    exact List.mem_cons_self
  case ishl =>
    unfold stepZ at hs
    dsimp only at hs
    obtain ⟨z1, st, rfl, h_1⟩ := pI_s hs
    obtain ⟨z2, st, rfl, h_2⟩ := pI_s h_1
    cases h_2
    cases hL
    exact List.mem_cons_self
  case lushr =>
    unfold stepZ at hs
    dsimp only at hs
    obtain ⟨z1, st, rfl, h_1⟩ := pI_s hs
    obtain ⟨z2, st, rfl, h_2⟩ := pL_s h_1
    cases h_2
    cases hL
    exact List.mem_cons_self
  case l2i =>
    unfold stepZ at hs
    dsimp only at hs
    obtain ⟨z1, st, rfl, h_1⟩ := pL_s hs
    cases h_1
    cases hL
    exact List.mem_cons_self
  case i2c =>
    unfold stepZ at hs
    dsimp only at hs
    obtain ⟨z1, st, rfl, h_1⟩ := pI_s hs
    cases h_1
    cases hL
    exact List.mem_cons_self
  case i2d =>
    unfold stepZ at hs
    dsimp only at hs
    obtain ⟨z1, st, rfl, h_1⟩ := pI_s hs
    cases h_1
    cases hL
    exact List.mem_cons_self
  case dconst n =>
    match n, hs with
    | 0, hs =>
      replace hs : nx (pc + 1) ls (aD dz0 :: st) s = some (.inl c') := hs
      cases hs
      cases hL
      exact List.mem_cons_self
    | 1, hs => exact absurd hs (fun h => by unfold stepZ at h; cases h)
  case ddiv =>
    unfold stepZ at hs
    dsimp only at hs
    obtain ⟨z1, st, rfl, h_1⟩ := pD_s hs
    obtain ⟨z2, st, rfl, h_2⟩ := pD_s h_1
    obtain ⟨hn, h_3⟩ := dd_s h_2
    cases h_3
    cases hL
    exact List.mem_cons_self
  case dup =>
    unfold stepZ at hs
    dsimp only at hs
    split at hs
    next z r => cases hs; cases hL; exact List.mem_cons_self
    next z r => cases hs; cases hL; exact List.mem_cons_self
    next => cases hs
  case goto o =>
    unfold stepZ at hs
    dsimp only at hs
    cases hs
    cases hL
    exact List.mem_cons_self
  case ifCond cd o =>
    cases hL
    cases cd
    case eq =>
      obtain ⟨z1, st, rfl, h_1⟩ := pI_s hs
      replace h_1 : (if z1 = 0 then nx (tg pc o) ls st s else nx (pc + 3) ls st s) = some (.inl c') := h_1
      by_cases z : z1 = 0
      · rw [if_pos z] at h_1; cases h_1; exact List.mem_cons_self
      · rw [if_neg z] at h_1; cases h_1; exact List.mem_cons_of_mem _ List.mem_cons_self
    case ne =>
      obtain ⟨z1, st, rfl, h_1⟩ := pI_s hs
      replace h_1 : (if z1 = 0 then nx (pc + 3) ls st s else nx (tg pc o) ls st s) = some (.inl c') := h_1
      by_cases z : z1 = 0
      · rw [if_pos z] at h_1; cases h_1; exact List.mem_cons_of_mem _ List.mem_cons_self
      · rw [if_neg z] at h_1; cases h_1; exact List.mem_cons_self
    case lt =>
      obtain ⟨z1, st, rfl, h_1⟩ := pI_s hs
      replace h_1 : (if z1 < 0 then nx (tg pc o) ls st s else nx (pc + 3) ls st s) = some (.inl c') := h_1
      by_cases z : z1 < 0
      · rw [if_pos z] at h_1; cases h_1; exact List.mem_cons_self
      · rw [if_neg z] at h_1; cases h_1; exact List.mem_cons_of_mem _ List.mem_cons_self
    case ge =>
      obtain ⟨z1, st, rfl, h_1⟩ := pI_s hs
      replace h_1 : (if z1 < 0 then nx (pc + 3) ls st s else nx (tg pc o) ls st s) = some (.inl c') := h_1
      by_cases z : z1 < 0
      · rw [if_pos z] at h_1; cases h_1; exact List.mem_cons_of_mem _ List.mem_cons_self
      · rw [if_neg z] at h_1; cases h_1; exact List.mem_cons_self
    case gt =>
      obtain ⟨z1, st, rfl, h_1⟩ := pI_s hs
      replace h_1 : (if 0 < z1 then nx (tg pc o) ls st s else nx (pc + 3) ls st s) = some (.inl c') := h_1
      by_cases z : 0 < z1
      · rw [if_pos z] at h_1; cases h_1; exact List.mem_cons_self
      · rw [if_neg z] at h_1; cases h_1; exact List.mem_cons_of_mem _ List.mem_cons_self
    case le =>
      obtain ⟨z1, st, rfl, h_1⟩ := pI_s hs
      replace h_1 : (if 0 < z1 then nx (pc + 3) ls st s else nx (tg pc o) ls st s) = some (.inl c') := h_1
      by_cases z : 0 < z1
      · rw [if_pos z] at h_1; cases h_1; exact List.mem_cons_of_mem _ List.mem_cons_self
      · rw [if_neg z] at h_1; cases h_1; exact List.mem_cons_self
  case if_icmp cd o =>
    cases hL
    cases cd
    case eq =>
      obtain ⟨z1, st, rfl, h_1⟩ := pI_s hs
      obtain ⟨z2, st, rfl, h_2⟩ := pI_s h_1
      replace h_2 : (if z2 = z1 then nx (tg pc o) ls st s else nx (pc + 3) ls st s) = some (.inl c') := h_2
      by_cases z : z2 = z1
      · rw [if_pos z] at h_2; cases h_2; exact List.mem_cons_self
      · rw [if_neg z] at h_2; cases h_2; exact List.mem_cons_of_mem _ List.mem_cons_self
    case ne =>
      obtain ⟨z1, st, rfl, h_1⟩ := pI_s hs
      obtain ⟨z2, st, rfl, h_2⟩ := pI_s h_1
      replace h_2 : (if z2 = z1 then nx (pc + 3) ls st s else nx (tg pc o) ls st s) = some (.inl c') := h_2
      by_cases z : z2 = z1
      · rw [if_pos z] at h_2; cases h_2; exact List.mem_cons_of_mem _ List.mem_cons_self
      · rw [if_neg z] at h_2; cases h_2; exact List.mem_cons_self
    case lt =>
      obtain ⟨z1, st, rfl, h_1⟩ := pI_s hs
      obtain ⟨z2, st, rfl, h_2⟩ := pI_s h_1
      replace h_2 : (if z2 < z1 then nx (tg pc o) ls st s else nx (pc + 3) ls st s) = some (.inl c') := h_2
      by_cases z : z2 < z1
      · rw [if_pos z] at h_2; cases h_2; exact List.mem_cons_self
      · rw [if_neg z] at h_2; cases h_2; exact List.mem_cons_of_mem _ List.mem_cons_self
    case ge =>
      obtain ⟨z1, st, rfl, h_1⟩ := pI_s hs
      obtain ⟨z2, st, rfl, h_2⟩ := pI_s h_1
      replace h_2 : (if z2 < z1 then nx (pc + 3) ls st s else nx (tg pc o) ls st s) = some (.inl c') := h_2
      by_cases z : z2 < z1
      · rw [if_pos z] at h_2; cases h_2; exact List.mem_cons_of_mem _ List.mem_cons_self
      · rw [if_neg z] at h_2; cases h_2; exact List.mem_cons_self
    case gt =>
      obtain ⟨z1, st, rfl, h_1⟩ := pI_s hs
      obtain ⟨z2, st, rfl, h_2⟩ := pI_s h_1
      replace h_2 : (if z1 < z2 then nx (tg pc o) ls st s else nx (pc + 3) ls st s) = some (.inl c') := h_2
      by_cases z : z1 < z2
      · rw [if_pos z] at h_2; cases h_2; exact List.mem_cons_self
      · rw [if_neg z] at h_2; cases h_2; exact List.mem_cons_of_mem _ List.mem_cons_self
    case le =>
      obtain ⟨z1, st, rfl, h_1⟩ := pI_s hs
      obtain ⟨z2, st, rfl, h_2⟩ := pI_s h_1
      replace h_2 : (if z1 < z2 then nx (pc + 3) ls st s else nx (tg pc o) ls st s) = some (.inl c') := h_2
      by_cases z : z1 < z2
      · rw [if_pos z] at h_2; cases h_2; exact List.mem_cons_of_mem _ List.mem_cons_self
      · rw [if_neg z] at h_2; cases h_2; exact List.mem_cons_self
  case tableswitch df lo hi offs =>
    obtain ⟨a, st, rfl, h_1⟩ := pI_s hs
    replace h_1 : (if a < lo ∨ hi < a then nx (tg pc df) ls st s else match offs[(a - lo).toNat]? with | some o => nx (tg pc o) ls st s | none => none) = some (.inl c') := h_1
    cases hL
    by_cases z : a < lo ∨ hi < a
    · rw [if_pos z] at h_1; cases h_1; exact List.mem_cons_self
    · rw [if_neg z] at h_1
      cases hz : offs[(a - lo).toNat]? with
      | none => rw [hz] at h_1; cases h_1
      | some o => rw [hz] at h_1; cases h_1; exact List.mem_cons_of_mem _ (List.mem_map.mpr ⟨o, by rw [← Array.getElem?_toList] at hz; exact List.mem_of_getElem? hz, rfl⟩)
  case iaload =>
    unfold stepZ at hs
    dsimp only at hs
    obtain ⟨z1, st, rfl, h_1⟩ := pI_s hs
    obtain ⟨r2, st, rfl, h_2⟩ := pR_s h_1
    obtain ⟨h0, h_3⟩ := if_s h_2
    cases h_3
    cases hL
    exact List.mem_cons_self
  case baload =>
    unfold stepZ at hs
    dsimp only at hs
    obtain ⟨z1, st, rfl, h_1⟩ := pI_s hs
    obtain ⟨r2, st, rfl, h_2⟩ := pR_s h_1
    obtain ⟨h0, h_3⟩ := if_s h_2
    cases h_3
    cases hL
    exact List.mem_cons_self
  case castore =>
    unfold stepZ at hs
    dsimp only at hs
    obtain ⟨z1, st, rfl, h_1⟩ := pI_s hs
    obtain ⟨z2, st, rfl, h_2⟩ := pI_s h_1
    obtain ⟨r3, st, rfl, h_3⟩ := pR_s h_2
    obtain ⟨h0, h_4⟩ := if_s h_3
    cases h_4
    cases hL
    exact List.mem_cons_self
  case getfield idx =>
    unfold stepZ at hs
    dsimp only at hs
    obtain ⟨r, st, rfl, h_1⟩ := pR_s hs
    cases hL
    cases hv : pfl (mC y) idx with
    | none => rw [hv] at h_1; cases h_1
    | some ck =>
      obtain ⟨ci, k⟩ := ck
      rw [hv] at h_1
      dsimp only at h_1
      obtain ⟨h0, h_2⟩ := if_s h_1
      split at h_2
      next v hv2 => cases h_2; exact List.mem_cons_self
      next => cases h_2
  case putfield idx =>
    unfold stepZ at hs
    dsimp only at hs
    cases hL
    cases hv : pfl (mC y) idx with
    | none => rw [hv] at hs; cases hs
    | some ck =>
      obtain ⟨ci, k⟩ := ck
      rw [hv] at hs
      dsimp only at hs
      split at hs
      next hz =>
        obtain ⟨v, st, rfl, h_4⟩ := pI_s hs
        obtain ⟨r, st, rfl, h_5⟩ := pR_s h_4
        obtain ⟨h0, h_6⟩ := if_s h_5
        cases h_6
        exact List.mem_cons_self
      next hz =>
        obtain ⟨v, st, rfl, h_4⟩ := pI_s hs
        obtain ⟨r, st, rfl, h_5⟩ := pR_s h_4
        obtain ⟨h0, h_6⟩ := if_s h_5
        cases h_6
        exact List.mem_cons_self
      next hz =>
        obtain ⟨v, st, rfl, h_7⟩ := pR_s hs
        obtain ⟨r, st, rfl, h_8⟩ := pR_s h_7
        obtain ⟨h0, h_9⟩ := if_s h_8
        cases h_9
        exact List.mem_cons_self
      next => cases hs
  case new idx =>
    unfold stepZ at hs
    dsimp only at hs
    cases hv : pxl (mC y) idx with
    | none => rw [hv] at hs; cases hs
    | some t => rw [hv] at hs; cases hs
  case ireturn =>
    unfold stepZ at hs
    dsimp only at hs
    split at hs
    next z => obtain ⟨hz, h_1⟩ := if_s hs; cases h_1
    next => cases hs
  case dreturn =>
    unfold stepZ at hs
    dsimp only at hs
    split at hs
    next z => obtain ⟨hz, h_1⟩ := if_s hs; cases h_1
    next => cases hs
  case return_ =>
    unfold stepZ at hs
    dsimp only at hs
    split at hs
    next => obtain ⟨hz, h_1⟩ := if_s hs; cases h_1
    next => cases hs
  case invokevirtual idx =>
    unfold stepZ at hs
    dsimp only at hs
    cases hv : pml (mC y) idx with
    | none => rw [hv] at hs; cases hs
    | some j =>
      rw [hv] at hs
      obtain ⟨-, h_1⟩ := if_s hs
      obtain ⟨e1, e2⟩ := doCall_len h_1
      replace hL : (match pml (mC y) idx with | some j => some [(pc + 3, st.length - mNa j + (if mRt j = 0 then 0 else 1))] | none => none) = some L := hL
      rw [hv] at hL
      cases hL
      rw [List.length_drop] at e2
      rw [e1, e2]
      exact List.mem_cons_self
  case invokestatic idx =>
    unfold stepZ at hs
    dsimp only at hs
    cases hv : pml (mC y) idx with
    | none => rw [hv] at hs; cases hs
    | some j =>
      rw [hv] at hs
      dsimp only at hs
      replace hL : (match pml (mC y) idx with | some j => (if 60 ≤ j ∧ j ≤ 62 then none else some [(pc + 3, st.length - mNa j + (if mRt j = 0 then 0 else 1))]) | none => none) = some L := hL
      rw [hv] at hL
      dsimp only at hL
      split at hL
      next => cases hL
      next hb =>
        cases hL
        rw [if_neg (by omega), if_neg (by omega), if_neg (by omega)] at hs
        obtain ⟨-, h_1⟩ := if_s hs
        obtain ⟨e1, e2⟩ := doCall_len h_1
        rw [List.length_drop] at e2
        rw [e1, e2]
        exact List.mem_cons_self
  all_goals (cases hL)
def sdt (y : Nat) : List (Nat × Nat) := match y with
  | 64 => [(0, 0), (1, 1), (4, 1), (5, 0), (6, 1), (7, 2), (10, 0), (20, 0), (21, 1), (24, 1), (25, 2), (26, 1), (29, 2), (32, 0), (42, 0), (44, 1), (46, 0), (48, 1), (51, 0), (52, 1), (54, 2), (55, 1), (56, 1), (59, 2), (60, 1), (62, 0), (64, 1), (67, 0), (68, 1), (71, 1), (74, 2), (77, 0), (78, 1), (81, 1), (82, 2), (85, 2), (87, 3), (88, 3), (89, 0), (90, 1), (91, 2), (94, 2), (95, 3), (96, 2), (99, 0), (102, 0), (105, 0), (106, 1), (109, 1)]
  | 65 => [(0, 0), (1, 1), (4, 1), (5, 0), (6, 1), (7, 2), (10, 0), (11, 1)]
  | 66 => [(0, 0), (1, 1), (4, 1), (5, 2), (8, 2), (9, 3), (12, 3), (15, 0), (16, 1), (17, 2), (20, 2), (21, 3), (24, 3), (27, 3), (30, 2), (33, 0), (34, 1), (37, 1), (38, 2), (41, 0), (51, 0), (52, 1), (53, 2), (56, 2), (57, 3), (60, 3), (63, 2), (66, 0), (67, 1), (70, 1), (71, 2), (74, 0), (84, 0), (85, 1), (88, 1), (89, 2), (92, 2), (95, 1), (98, 0), (108, 0), (109, 1), (112, 1), (113, 2), (116, 2), (119, 0), (120, 1), (121, 2), (124, 2), (125, 3), (128, 3), (131, 2), (134, 0), (135, 1), (138, 1), (139, 2), (142, 0), (152, 0), (153, 1), (154, 2), (157, 2), (158, 3), (161, 3), (164, 2), (167, 0), (168, 1), (171, 1), (172, 2), (175, 0), (185, 0), (186, 1), (188, 2), (191, 0), (192, 1), (193, 2), (196, 0), (197, 1), (200, 1), (201, 0), (202, 1), (203, 2), (206, 2), (209, 0), (210, 1), (211, 2), (214, 0), (215, 1), (218, 1), (221, 0), (222, 1), (225, 1), (228, 1), (231, 1)]
  | 67 => [(0, 0), (1, 1), (4, 1)]
  | 68 => [(0, 0), (1, 1), (4, 0), (5, 1), (6, 2), (9, 0), (19, 0), (20, 1), (23, 1), (24, 2), (27, 1), (30, 0), (40, 0), (41, 1), (44, 1), (47, 1), (48, 0), (49, 1), (76, 0), (77, 1), (80, 1), (81, 2), (82, 1), (83, 0), (84, 1), (87, 1), (88, 2), (89, 1), (90, 0), (91, 1), (94, 1), (95, 2), (96, 1), (99, 0), (100, 1), (103, 0), (104, 1), (105, 0), (106, 1), (109, 1), (110, 2), (111, 1)]
  | 69 => [(0, 0), (1, 1), (4, 1), (5, 2), (8, 1), (11, 0), (21, 0), (22, 1), (25, 1), (28, 1), (29, 2), (30, 1)]
  | 70 => [(0, 0), (1, 1), (4, 1), (5, 2), (8, 1), (11, 0), (21, 0), (22, 1), (25, 1), (28, 1), (29, 2), (32, 1), (35, 0), (45, 0), (46, 1), (49, 1), (50, 2), (51, 3), (54, 1)]
  | 71 => [(0, 0), (1, 1), (4, 1), (5, 2), (8, 1), (11, 0), (21, 0), (22, 1), (25, 1), (28, 1), (29, 2), (30, 1)]
  | 72 => [(0, 0), (1, 1), (2, 2), (5, 0), (6, 1), (8, 2), (11, 0), (21, 0), (22, 1), (25, 1), (28, 0), (38, 0), (39, 1), (40, 0), (41, 1), (42, 2), (45, 0), (46, 1), (49, 1), (52, 0), (55, 0), (58, 0), (59, 1), (62, 1), (65, 1)]
  | 73 => [(0, 0), (1, 1), (4, 1), (5, 2), (8, 1), (11, 0), (21, 0), (22, 1), (25, 1), (28, 1), (31, 0), (32, 1), (33, 0), (34, 1), (37, 1), (40, 1), (41, 2), (42, 1), (43, 1), (44, 2), (47, 2), (50, 2), (51, 2), (52, 1)]
  | 74 => [(0, 0), (1, 1), (4, 0), (5, 1), (6, 2), (9, 0), (19, 0), (20, 1), (56, 0), (57, 1), (60, 1), (61, 0), (62, 1), (65, 1), (68, 1), (71, 1), (72, 0), (73, 1), (76, 1), (79, 1), (82, 1), (83, 0), (84, 1), (87, 1), (90, 1), (93, 1), (94, 0), (95, 1), (98, 1), (101, 1), (102, 0), (103, 1), (106, 1), (109, 1), (112, 1)]
  | 75 => [(0, 0), (1, 1), (2, 0), (4, 1), (5, 0), (6, 1), (9, 0), (10, 1), (11, 2), (12, 1), (13, 1), (16, 2), (17, 1), (19, 0), (21, 1), (24, 0), (26, 1), (28, 2), (31, 0), (33, 1), (35, 2), (38, 0), (39, 1), (40, 0), (43, 0), (46, 0), (49, 0), (50, 1)]
  | 76 => [(0, 0), (1, 1), (2, 2), (3, 1), (4, 2), (5, 1)]
  | _ => []
def dOK (y : Nat) : Bool := (sdt y).all (fun q => match decode (mB y) q.1 with
  | .ok (i, _) => match nxs y q.1 i q.2 with
    | some L => L.all (fun t => (sdt y).contains t)
    | none => false
  | .error _ => false)
theorem sd_all : ((List.range 13).all (fun k => (dOK (64 + k) && (sdt (64 + k)).contains (0, 0)) && (mC (64 + k) == 1))) = true := by decide +kernel
theorem sd_ok {y : Nat} (h1 : 64 ≤ y) (h2 : y ≤ 76) : (dOK y = true ∧ (0, 0) ∈ sdt y) ∧ mC y = 1 := by
  have h := List.all_eq_true.mp sd_all (y - 64) (List.mem_range.mpr (by omega))
  rw [show 64 + (y - 64) = y by omega] at h
  simp only [Bool.and_eq_true, List.contains_iff_mem, beq_iff_eq] at h
  exact h
theorem sd_step {C : Nat → List AV → Mem → Option Res} {y len pc : Nat} {i : Instr} {ls st : List AV} {s : Mem} (hy : dOK y = true) (hd : decode (mB y) pc = .ok (i, len)) (hin : (pc, st.length) ∈ sdt y) :
    (∀ c', stepZ C y i len pc ls st s = some (.inl c') → (c'.1, c'.2.2.1.length) ∈ sdt y) ∧ ∀ idx, i = .new idx → st = [] := by
  have h := List.all_eq_true.mp hy _ hin
  dsimp only at h
  rw [hd] at h
  dsimp only at h
  cases hn : nxs y pc i st.length with
  | none => rw [hn] at h; cases h
  | some L =>
    rw [hn] at h
    refine ⟨fun c' hs => ?_, fun idx hi => ?_⟩
    · have h2 := List.all_eq_true.mp h _ (step_len hs hn)
      simpa using h2
    · subst hi
      unfold nxs at hn
      dsimp only at hn
      split at hn
      next z => exact List.eq_nil_of_length_eq_zero z
      next => cases hn
