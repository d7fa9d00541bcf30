section ZW
variable {p : Program} {l : Launch} {e : Env} {R : Room} {s : State} {m : MethodId} {args : Array Value} {below : List Frame} {meth : Method} {c : Code}
variable {ad : Nat → Nat} {D : va_G} {cT : Nat → ClassId} {y pc d : Nat} {als st : List AV} {w : Mem} {C : Nat → List AV → Mem → Option Res}
theorem arg_split {n : Nat} (h : n ≤ st.length) : st = ((st.take n).reverse).reverse ++ st.drop n ∧ ((st.take n).reverse).length = n := by
  rw [List.reverse_reverse, List.take_append_drop, List.length_reverse, List.length_take, Nat.min_eq_left h]
  exact ⟨rfl, rfl⟩
theorem recv_s {x : List AV} {ci : Nat} (h : recv x = ci) (hc : ci < 999) : ∃ (r : Nat) (as' : List AV), x.reverse = aR r :: as' ∧ obC r = ci := by
  unfold recv at h
  split at h
  next z hz =>
    split at h
    next h0 =>
      rw [List.getLast?_eq_head?_reverse] at hz
      cases hx : x.reverse with
      | nil => rw [hx] at hz; cases hz
      | cons a t =>
        rw [hx] at hz
        cases hz
        exact ⟨z.toNat, t, by rw [show aR z.toNat = (1, ((z.toNat : Nat) : Int)) from rfl, Int.toNat_of_nonneg h0], h⟩
    next => omega
  next => omega
theorem z_step {Q : State → Prop} (C0 : CXZ p s m args meth c (wsZ y) (mC y) (mB y) (mL y)) (hr : meth.sig.returnType = retT (mRt y)) (hlocks : meth.locks = false) (hcy : mC y < 15) (hK : KZ D cT s) (hR : d + 1 ≤ R.frames ∧ 40 * (d + 1) ≤ R.locals)
    (hA : ∀ q, s.heap.size ≤ q → AZ ad s.heap.size q) (hC : SND l C d) {i : Instr} {len : Nat} (hd : decode (mB y) pc = .ok (i, len)) (hk : insOk i len pc = true) {q : Cfg ⊕ Res} (hs : stepZ C y i len pc als st w = some q)
    (kn : ∀ pc' als' st' w', q = .inl (pc', als', st', w') → Wz p l e R s m args below meth c Q ad D cT (AZ ad s.heap.size) y pc' als' st' w') (kr : ∀ r : Res, q = .inr r → r.1 < 10 → Q = MQ below (QZ ad D cT (AZ ad s.heap.size) r) args s 0 0 (AZ ad s.heap.size))
    (kt : ∀ idx t, i = .new idx → pxl (mC y) idx = some t → q = .inr (10 + t, aU, w) → Wz p l e R s m args below meth c Q ad D cT (AZ ad s.heap.size) y pc als st w) :
    Wz p l e R s m args below meth c Q ad D cT (AZ ad s.heap.size) y pc als st w := by
  obtain ⟨hx, hb, hml, hown, hts, hT⟩ := id C0
  cases i
  case iconst n =>
    obtain rfl : len = 1 := by simpa [insOk] using hk
    unfold stepZ at hs
    dsimp only at hs
    cases hs
    exact z_iconst hx hb hd (kn _ _ _ _ rfl)
  case dconst n =>
    obtain rfl : len = 1 := by simpa [insOk] using hk
    match n, hd, hs with
    | 0, hd, hs =>
      replace hs : nx (pc + 1) als (aD dz0 :: st) w = some q := hs
      cases hs
      exact z_dconst hx hb hd (kn _ _ _ _ rfl)
    | 1, hd, hs => exact absurd hs (fun h => by unfold stepZ at h; cases h)
  case i2d =>
    obtain rfl : len = 1 := by simpa [insOk] using hk
    unfold stepZ at hs
    dsimp only at hs
    obtain ⟨z, st, rfl, h_1⟩ := pI_s hs
    cases h_1
    exact z_i2d hx hb hd (kn _ _ _ _ rfl)
  case ddiv =>
    obtain rfl : len = 1 := by simpa [insOk] using hk
    unfold stepZ at hs
    dsimp only at hs
    obtain ⟨b, st, rfl, h_1⟩ := pD_s hs
    obtain ⟨a, st, rfl, h_2⟩ := pD_s h_1
    obtain ⟨hn, h_3⟩ := dd_s h_2
    cases h_3
    exact z_ddiv hx hb hd hn (kn _ _ _ _ rfl)
  case dreturn =>
    obtain rfl : len = 1 := by simpa [insOk] using hk
    unfold stepZ at hs
    dsimp only at hs
    split at hs
    next z =>
      obtain ⟨hz, h_1⟩ := if_s hs
      cases h_1
      obtain rfl := kr _ rfl (show (2 : Nat) < 10 by decide)
      intro ls H locs h
      have hq : ∀ t : State, t.heap = H → s.WarmedH t.vm → QZ ad D cT (AZ ad s.heap.size) (2, (3, z), w) args s (.returned (some (.double (dU z)))) t := fun t ht hW => by
        unfold QZ
        rw [if_neg (by show ¬ (2 : Nat) = 1; decide), if_pos rfl]
        exact ⟨⟨dU z, (), rfl, rfl, by rw [ht]; exact h.2.2.2.2.1, h.2.2.2.2.2.1.weaken (fun _ _ _ _ => trivial), hK.moved hW, h.2.2.2.1⟩, h.2.2.2.2.2.2.F ht⟩
      exact W.dret hx hb (by rw [hr, hz]; rfl) hq h.2.2.2.2.2.2.2.2 hd hlocks
    next => cases hs
  case bipush n =>
    obtain rfl : len = 2 := by simpa [insOk] using hk
    unfold stepZ at hs
    dsimp only at hs
    cases hs
    exact z_bipush hx hb hd (kn _ _ _ _ rfl)
  case sipush n =>
    obtain rfl : len = 3 := by simpa [insOk] using hk
    unfold stepZ at hs
    dsimp only at hs
    cases hs
    exact z_sipush hx hb hd (kn _ _ _ _ rfl)
  case ldc idx =>
    obtain rfl : len = 2 := by simpa [insOk] using hk
    unfold stepZ at hs
    dsimp only at hs
    cases hv : pcl (mC y) idx with
    | none => exact absurd (show (none : Option (Cfg ⊕ Res)) = some q by rw [← hs]; show _ = (match pcl (mC y) idx with | some v => nx (pc + 2) als (aI v :: st) w | none => none); rw [hv]) (by simp)
    | some v =>
      replace hs : nx (pc + 2) als (aI v :: st) w = some q := by rw [← hs]; show _ = (match pcl (mC y) idx with | some v => nx (pc + 2) als (aI v :: st) w | none => none); rw [hv]
      cases hs
      have hn := fnAll (mC y) hcy _ (pcl_lt hv)
      exact z_ldc hx hb hown (hts _ (hT _ hn.1)) hn.2 hd (kn _ _ _ _ rfl)
  case iload_n k =>
    obtain rfl : len = 1 := by simpa [insOk] using hk
    unfold stepZ at hs
    dsimp only at hs
    obtain ⟨z, hz, h_1⟩ := gI_s hs
    cases h_1
    exact z_iload_n hx hb hd hz (kn _ _ _ _ rfl)
  case iload k =>
    obtain rfl : len = 2 := by simpa [insOk] using hk
    unfold stepZ at hs
    dsimp only at hs
    obtain ⟨z, hz, h_1⟩ := gI_s hs
    cases h_1
    exact z_iload hx hb hd hz (kn _ _ _ _ rfl)
  case aload_n k =>
    obtain rfl : len = 1 := by simpa [insOk] using hk
    unfold stepZ at hs
    dsimp only at hs
    obtain ⟨z, hz, h_1⟩ := gR_s hs
    cases h_1
    exact z_aload_n hx hb hd hz (kn _ _ _ _ rfl)
  case aload k =>
    obtain rfl : len = 2 := by simpa [insOk] using hk
    unfold stepZ at hs
    dsimp only at hs
    obtain ⟨z, hz, h_1⟩ := gR_s hs
    cases h_1
    exact z_aload hx hb hd hz (kn _ _ _ _ rfl)
  case lload_n k =>
    obtain rfl : len = 1 := by simpa [insOk] using hk
    unfold stepZ at hs
    dsimp only at hs
    obtain ⟨z, hz, h_1⟩ := gL_s hs
    cases h_1
    exact z_lload_n hx hb hd hz (kn _ _ _ _ rfl)
  case istore_n k =>
    obtain rfl : len = 1 := by simpa [insOk] using hk
    unfold stepZ at hs
    dsimp only at hs
    obtain ⟨z, st, rfl, h_1⟩ := pI_s hs
    obtain ⟨hi, h_2⟩ := stL_s h_1
    cases h_2
    exact z_istore_n hx hb hd hi (kn _ _ _ _ rfl)
  case istore k =>
    obtain rfl : len = 2 := by simpa [insOk] using hk
    unfold stepZ at hs
    dsimp only at hs
    obtain ⟨z, st, rfl, h_1⟩ := pI_s hs
    obtain ⟨hi, h_2⟩ := stL_s h_1
    cases h_2
    exact z_istore hx hb hd hi (kn _ _ _ _ rfl)
  case astore_n k =>
    obtain rfl : len = 1 := by simpa [insOk] using hk
    unfold stepZ at hs
    dsimp only at hs
    obtain ⟨z, st, rfl, h_1⟩ := pR_s hs
    obtain ⟨hi, h_2⟩ := stL_s h_1
    cases h_2
    exact z_astore_n hx hb hd hi (kn _ _ _ _ rfl)
  case iinc k n =>
    obtain rfl : len = 3 := by simpa [insOk] using hk
    unfold stepZ at hs
    dsimp only at hs
    obtain ⟨z, hz, h_1⟩ := gI_s hs
    obtain ⟨hi, h_2⟩ := stL_s h_1
    cases h_2
    exact z_iinc hx hb hd hz hi (kn _ _ _ _ rfl)
  case iadd =>
    obtain rfl : len = 1 := by simpa [insOk] using hk
    unfold stepZ at hs
    dsimp only at hs
    obtain ⟨b, st, rfl, h_1⟩ := pI_s hs
    obtain ⟨a, st, rfl, h_2⟩ := pI_s h_1
    cases h_2
    exact z_iadd hx hb hd (kn _ _ _ _ rfl)
  case isub =>
    obtain rfl : len = 1 := by simpa [insOk] using hk
    unfold stepZ at hs
    dsimp only at hs
    obtain ⟨b, st, rfl, h_1⟩ := pI_s hs
    obtain ⟨a, st, rfl, h_2⟩ := pI_s h_1
    cases h_2
    exact z_isub hx hb hd (kn _ _ _ _ rfl)
  case imul =>
    obtain rfl : len = 1 := by simpa [insOk] using hk
    unfold stepZ at hs
    dsimp only at hs
    obtain ⟨b, st, rfl, h_1⟩ := pI_s hs
    obtain ⟨a, st, rfl, h_2⟩ := pI_s h_1
    cases h_2
    exact z_imul hx hb hd (kn _ _ _ _ rfl)
  case iand =>
    obtain rfl : len = 1 := by simpa [insOk] using hk
    unfold stepZ at hs
    dsimp only at hs
    obtain ⟨b, st, rfl, h_1⟩ := pI_s hs
    obtain ⟨a, st, rfl, h_2⟩ := pI_s h_1
    cases h_2
    exact z_iand hx hb hd (kn _ _ _ _ rfl)
  case ior =>
    obtain rfl : len = 1 := by simpa [insOk] using hk
    unfold stepZ at hs
    dsimp only at hs
    obtain ⟨b, st, rfl, h_1⟩ := pI_s hs
    obtain ⟨a, st, rfl, h_2⟩ := pI_s h_1
    cases h_2
    exact z_ior hx hb hd (kn _ _ _ _ rfl)
  case ixor =>
    obtain rfl : len = 1 := by simpa [insOk] using hk
    unfold stepZ at hs
    dsimp only at hs
    obtain ⟨b, st, rfl, h_1⟩ := pI_s hs
    obtain ⟨a, st, rfl, h_2⟩ := pI_s h_1
    cases h_2
    exact z_ixor hx hb hd (kn _ _ _ _ rfl)
  case ishl =>
    obtain rfl : len = 1 := by simpa [insOk] using hk
    unfold stepZ at hs
    dsimp only at hs
    obtain ⟨b, st, rfl, h_1⟩ := pI_s hs
    obtain ⟨a, st, rfl, h_2⟩ := pI_s h_1
    cases h_2
    exact z_ishl hx hb hd (kn _ _ _ _ rfl)
  case ishr =>
    obtain rfl : len = 1 := by simpa [insOk] using hk
    unfold stepZ at hs
    dsimp only at hs
    obtain ⟨b, st, rfl, h_1⟩ := pI_s hs
    obtain ⟨a, st, rfl, h_2⟩ := pI_s h_1
    cases h_2
    exact z_ishr hx hb hd (kn _ _ _ _ rfl)
  case irem =>
    obtain rfl : len = 1 := by simpa [insOk] using hk
    unfold stepZ at hs
    dsimp only at hs
    obtain ⟨b, st, rfl, h_1⟩ := pI_s hs
    obtain ⟨a, st, rfl, h_2⟩ := pI_s h_1
    obtain ⟨h0, h_3⟩ := if_s h_2
    cases h_3
    exact z_irem hx hb hd h0 (kn _ _ _ _ rfl)
  case lushr =>
    obtain rfl : len = 1 := by simpa [insOk] using hk
    unfold stepZ at hs
    dsimp only at hs
    obtain ⟨b, st, rfl, h_1⟩ := pI_s hs
    obtain ⟨a, st, rfl, h_2⟩ := pL_s h_1
    cases h_2
    exact z_lushr hx hb hd (kn _ _ _ _ rfl)
  case lshr =>
    obtain rfl : len = 1 := by simpa [insOk] using hk
    unfold stepZ at hs
    dsimp only at hs
    obtain ⟨b, st, rfl, h_1⟩ := pI_s hs
    obtain ⟨a, st, rfl, h_2⟩ := pL_s h_1
    cases h_2
    exact z_lshr hx hb hd (kn _ _ _ _ rfl)
  case l2i =>
    obtain rfl : len = 1 := by simpa [insOk] using hk
    unfold stepZ at hs
    dsimp only at hs
    obtain ⟨a, st, rfl, h_1⟩ := pL_s hs
    cases h_1
    exact z_l2i hx hb hd (kn _ _ _ _ rfl)
  case i2c =>
    obtain rfl : len = 1 := by simpa [insOk] using hk
    unfold stepZ at hs
    dsimp only at hs
    obtain ⟨a, st, rfl, h_1⟩ := pI_s hs
    cases h_1
    exact z_i2c hx hb hd (kn _ _ _ _ rfl)
  case pop =>
    obtain rfl : len = 1 := by simpa [insOk] using hk
    unfold stepZ at hs
    dsimp only at hs
    obtain ⟨a, st, rfl, h_1⟩ := pI_s hs
    cases h_1
    exact z_pop hx hb hd (kn _ _ _ _ rfl)
  case dup =>
    obtain rfl : len = 1 := by simpa [insOk] using hk
    unfold stepZ at hs
    dsimp only at hs
    split at hs
    next z r => cases hs; exact z_dup0 hx hb hd (kn _ _ _ _ rfl)
    next z r => cases hs; exact z_dup1 hx hb hd (kn _ _ _ _ rfl)
    next => cases hs
  case dup2 =>
    obtain rfl : len = 1 := by simpa [insOk] using hk
    unfold stepZ at hs
    dsimp only at hs
    split at hs
    next z v r => cases hs; exact z_dup2 hx hb hd (kn _ _ _ _ rfl)
    next => cases hs
  case goto o =>
    obtain ⟨rfl, ho⟩ : len = 3 ∧ 0 ≤ (pc : Int) + o := by simpa [insOk] using hk
    unfold stepZ at hs
    dsimp only at hs
    cases hs
    exact z_goto hx hb hd ho (kn _ _ _ _ rfl)
  case ifCond cd o =>
    obtain ⟨rfl, ho⟩ : len = 3 ∧ 0 ≤ (pc : Int) + o := by simpa [insOk] using hk
    cases cd
    case eq =>
      obtain ⟨a, st, rfl, h_1⟩ := pI_s hs
      replace h_1 : (if a = 0 then nx (tg pc o) als st w else nx (pc + 3) als st w) = some q := h_1
      refine z_if_eq hx hb hd ho (fun z => kn _ _ _ _ ?_) (fun z => kn _ _ _ _ ?_)
      · rw [if_pos z] at h_1; exact (Option.some.inj h_1).symm
      · rw [if_neg z] at h_1; exact (Option.some.inj h_1).symm
    case ne =>
      obtain ⟨a, st, rfl, h_1⟩ := pI_s hs
      replace h_1 : (if a = 0 then nx (pc + 3) als st w else nx (tg pc o) als st w) = some q := h_1
      refine z_if_ne hx hb hd ho (fun z => kn _ _ _ _ ?_) (fun z => kn _ _ _ _ ?_)
      · rw [if_pos z] at h_1; exact (Option.some.inj h_1).symm
      · rw [if_neg z] at h_1; exact (Option.some.inj h_1).symm
    case lt =>
      obtain ⟨a, st, rfl, h_1⟩ := pI_s hs
      replace h_1 : (if a < 0 then nx (tg pc o) als st w else nx (pc + 3) als st w) = some q := h_1
      refine z_if_lt hx hb hd ho (fun z => kn _ _ _ _ ?_) (fun z => kn _ _ _ _ ?_)
      · rw [if_pos z] at h_1; exact (Option.some.inj h_1).symm
      · rw [if_neg z] at h_1; exact (Option.some.inj h_1).symm
    case ge =>
      obtain ⟨a, st, rfl, h_1⟩ := pI_s hs
      replace h_1 : (if a < 0 then nx (pc + 3) als st w else nx (tg pc o) als st w) = some q := h_1
      refine z_if_ge hx hb hd ho (fun z => kn _ _ _ _ ?_) (fun z => kn _ _ _ _ ?_)
      · rw [if_pos z] at h_1; exact (Option.some.inj h_1).symm
      · rw [if_neg z] at h_1; exact (Option.some.inj h_1).symm
    case gt =>
      obtain ⟨a, st, rfl, h_1⟩ := pI_s hs
      replace h_1 : (if 0 < a then nx (tg pc o) als st w else nx (pc + 3) als st w) = some q := h_1
      refine z_if_gt hx hb hd ho (fun z => kn _ _ _ _ ?_) (fun z => kn _ _ _ _ ?_)
      · rw [if_pos z] at h_1; exact (Option.some.inj h_1).symm
      · rw [if_neg z] at h_1; exact (Option.some.inj h_1).symm
    case le =>
      obtain ⟨a, st, rfl, h_1⟩ := pI_s hs
      replace h_1 : (if 0 < a then nx (pc + 3) als st w else nx (tg pc o) als st w) = some q := h_1
      refine z_if_le hx hb hd ho (fun z => kn _ _ _ _ ?_) (fun z => kn _ _ _ _ ?_)
      · rw [if_pos z] at h_1; exact (Option.some.inj h_1).symm
      · rw [if_neg z] at h_1; exact (Option.some.inj h_1).symm
  case if_icmp cd o =>
    obtain ⟨rfl, ho⟩ : len = 3 ∧ 0 ≤ (pc : Int) + o := by simpa [insOk] using hk
    cases cd
    case eq =>
      obtain ⟨b, st, rfl, h_1⟩ := pI_s hs
      obtain ⟨a, st, rfl, h_2⟩ := pI_s h_1
      replace h_2 : (if a = b then nx (tg pc o) als st w else nx (pc + 3) als st w) = some q := h_2
      refine z_icmp_eq hx hb hd ho (fun z => kn _ _ _ _ ?_) (fun z => kn _ _ _ _ ?_)
      · rw [if_pos z] at h_2; exact (Option.some.inj h_2).symm
      · rw [if_neg z] at h_2; exact (Option.some.inj h_2).symm
    case ne =>
      obtain ⟨b, st, rfl, h_1⟩ := pI_s hs
      obtain ⟨a, st, rfl, h_2⟩ := pI_s h_1
      replace h_2 : (if a = b then nx (pc + 3) als st w else nx (tg pc o) als st w) = some q := h_2
      refine z_icmp_ne hx hb hd ho (fun z => kn _ _ _ _ ?_) (fun z => kn _ _ _ _ ?_)
      · rw [if_pos z] at h_2; exact (Option.some.inj h_2).symm
      · rw [if_neg z] at h_2; exact (Option.some.inj h_2).symm
    case lt =>
      obtain ⟨b, st, rfl, h_1⟩ := pI_s hs
      obtain ⟨a, st, rfl, h_2⟩ := pI_s h_1
      replace h_2 : (if a < b then nx (tg pc o) als st w else nx (pc + 3) als st w) = some q := h_2
      refine z_icmp_lt hx hb hd ho (fun z => kn _ _ _ _ ?_) (fun z => kn _ _ _ _ ?_)
      · rw [if_pos z] at h_2; exact (Option.some.inj h_2).symm
      · rw [if_neg z] at h_2; exact (Option.some.inj h_2).symm
    case ge =>
      obtain ⟨b, st, rfl, h_1⟩ := pI_s hs
      obtain ⟨a, st, rfl, h_2⟩ := pI_s h_1
      replace h_2 : (if a < b then nx (pc + 3) als st w else nx (tg pc o) als st w) = some q := h_2
      refine z_icmp_ge hx hb hd ho (fun z => kn _ _ _ _ ?_) (fun z => kn _ _ _ _ ?_)
      · rw [if_pos z] at h_2; exact (Option.some.inj h_2).symm
      · rw [if_neg z] at h_2; exact (Option.some.inj h_2).symm
    case gt =>
      obtain ⟨b, st, rfl, h_1⟩ := pI_s hs
      obtain ⟨a, st, rfl, h_2⟩ := pI_s h_1
      replace h_2 : (if b < a then nx (tg pc o) als st w else nx (pc + 3) als st w) = some q := h_2
      refine z_icmp_gt hx hb hd ho (fun z => kn _ _ _ _ ?_) (fun z => kn _ _ _ _ ?_)
      · rw [if_pos z] at h_2; exact (Option.some.inj h_2).symm
      · rw [if_neg z] at h_2; exact (Option.some.inj h_2).symm
    case le =>
      obtain ⟨b, st, rfl, h_1⟩ := pI_s hs
      obtain ⟨a, st, rfl, h_2⟩ := pI_s h_1
      replace h_2 : (if b < a then nx (pc + 3) als st w else nx (tg pc o) als st w) = some q := h_2
      refine z_icmp_le hx hb hd ho (fun z => kn _ _ _ _ ?_) (fun z => kn _ _ _ _ ?_)
      · rw [if_pos z] at h_2; exact (Option.some.inj h_2).symm
      · rw [if_neg z] at h_2; exact (Option.some.inj h_2).symm
  case tableswitch df lo hi offs =>
    obtain ⟨a, st, rfl, h_1⟩ := pI_s hs
    simp only [insOk, Bool.and_eq_true, decide_eq_true_eq, List.all_eq_true] at hk
    replace h_1 : (if a < lo ∨ hi < a then nx (tg pc df) als st w else match offs[(a - lo).toNat]? with | some o => nx (tg pc o) als st w | none => none) = some q := h_1
    refine z_tswitch hx hb hd hk.1 hk.2 (fun z => kn _ _ _ _ ?_) (fun o z hz => kn _ _ _ _ ?_) ?_
    · rw [if_pos z] at h_1; exact (Option.some.inj h_1).symm
    · rw [if_neg z, hz] at h_1; exact (Option.some.inj h_1).symm
    · by_cases z : a < lo ∨ hi < a
      · rcases z with z | z
        · exact Or.inl z
        · exact Or.inr (Or.inl z)
      · rw [if_neg z] at h_1
        cases hz : offs[(a - lo).toNat]? with
        | none => rw [hz] at h_1; cases h_1
        | some o => exact Or.inr (Or.inr ⟨o, rfl⟩)
  case lookupswitch df ps =>
    obtain ⟨a, st, rfl, h_1⟩ := pI_s hs
    simp only [insOk, Bool.and_eq_true, decide_eq_true_eq] at hk
    cases h_1
    exact z_lswitch hx hb hd hk.1.1 (fun t ht => by have := List.all_eq_true.mp hk.1.2 t ht; simpa using this) hk.2 (kn _ _ _ _ rfl)
  case arraylength =>
    obtain rfl : len = 1 := by simpa [insOk] using hk
    unfold stepZ at hs
    dsimp only at hs
    obtain ⟨r, st, rfl, h_1⟩ := pR_s hs
    obtain ⟨h0, h_2⟩ := if_s h_1
    cases h_2
    exact z_arraylength hx hb hK hd h0 (kd_in r) (kn _ _ _ _ rfl)
  case iaload =>
    obtain rfl : len = 1 := by simpa [insOk] using hk
    unfold stepZ at hs
    dsimp only at hs
    obtain ⟨i, st, rfl, h_1⟩ := pI_s hs
    obtain ⟨r, st, rfl, h_2⟩ := pR_s h_1
    obtain ⟨h0, h_3⟩ := if_s h_2
    cases h_3
    exact z_iaload hx hb hK hd h0 (kn _ _ _ _ rfl)
  case baload =>
    obtain rfl : len = 1 := by simpa [insOk] using hk
    unfold stepZ at hs
    dsimp only at hs
    obtain ⟨i, st, rfl, h_1⟩ := pI_s hs
    obtain ⟨r, st, rfl, h_2⟩ := pR_s h_1
    obtain ⟨h0, h_3⟩ := if_s h_2
    cases h_3
    exact z_baload hx hb hK hd h0 (kn _ _ _ _ rfl)
  case caload =>
    obtain rfl : len = 1 := by simpa [insOk] using hk
    unfold stepZ at hs
    dsimp only at hs
    obtain ⟨i, st, rfl, h_1⟩ := pI_s hs
    obtain ⟨r, st, rfl, h_2⟩ := pR_s h_1
    obtain ⟨h0, h_3⟩ := if_s h_2
    cases h_3
    exact z_caload hx hb hK hd h0 (kn _ _ _ _ rfl)
  case aaload =>
    obtain rfl : len = 1 := by simpa [insOk] using hk
    unfold stepZ at hs
    dsimp only at hs
    obtain ⟨i, st, rfl, h_1⟩ := pI_s hs
    obtain ⟨r, st, rfl, h_2⟩ := pR_s h_1
    obtain ⟨h0, h_3⟩ := if_s h_2
    cases h_3
    exact z_aaload hx hb hK hd h0 (kn _ _ _ _ rfl)
  case iastore =>
    obtain rfl : len = 1 := by simpa [insOk] using hk
    unfold stepZ at hs
    dsimp only at hs
    obtain ⟨v, st, rfl, h_1⟩ := pI_s hs
    obtain ⟨i, st, rfl, h_2⟩ := pI_s h_1
    obtain ⟨r, st, rfl, h_3⟩ := pR_s h_2
    obtain ⟨h0, h_4⟩ := if_s h_3
    cases h_4
    exact z_iastore hx hb hK hd h0 (kn _ _ _ _ rfl)
  case bastore =>
    obtain rfl : len = 1 := by simpa [insOk] using hk
    unfold stepZ at hs
    dsimp only at hs
    obtain ⟨v, st, rfl, h_1⟩ := pI_s hs
    obtain ⟨i, st, rfl, h_2⟩ := pI_s h_1
    obtain ⟨r, st, rfl, h_3⟩ := pR_s h_2
    obtain ⟨h0, h_4⟩ := if_s h_3
    cases h_4
    exact z_bastore hx hb hK hd h0 (kn _ _ _ _ rfl)
  case castore =>
    obtain rfl : len = 1 := by simpa [insOk] using hk
    unfold stepZ at hs
    dsimp only at hs
    obtain ⟨v, st, rfl, h_1⟩ := pI_s hs
    obtain ⟨i, st, rfl, h_2⟩ := pI_s h_1
    obtain ⟨r, st, rfl, h_3⟩ := pR_s h_2
    obtain ⟨h0, h_4⟩ := if_s h_3
    cases h_4
    exact z_castore hx hb hK hd h0 (kn _ _ _ _ rfl)
  case getfield idx =>
    obtain rfl : len = 3 := by simpa [insOk] using hk
    unfold stepZ at hs
    dsimp only at hs
    obtain ⟨r, st, rfl, h_1⟩ := pR_s hs
    cases hv : pfl (mC y) idx with
    | none => exact absurd h_1 (by rw [hv]; simp)
    | some t =>
      obtain ⟨ci, k⟩ := t
      rw [hv] at h_1
      obtain ⟨h0, h_2⟩ := if_s h_1
      have hf : FFz (mC y) idx ci k := ffAll (mC y) hcy _ (pfl_lt hv)
      have hci : ci < 13 := clZ_lt hf.2.2.1
      cases hv2 : fldV ci k r w with
      | none => rw [hv2] at h_2; cases h_2
      | some v =>
        rw [hv2] at h_2
        cases h_2
        exact z_getfield hx hb hK hts hT hown hf (fcAll ci hci) (by omega) hd h0 hv2 (kn _ _ _ _ rfl)
  case putfield idx =>
    obtain rfl : len = 3 := by simpa [insOk] using hk
    unfold stepZ at hs
    dsimp only at hs
    cases hv : pfl (mC y) idx with
    | none => rw [hv] at hs; cases hs
    | some t =>
      obtain ⟨ci, k⟩ := t
      rw [hv] at hs
      dsimp only at hs
      have hf : FFz (mC y) idx ci k := ffAll (mC y) hcy _ (pfl_lt hv)
      have hci : ci < 13 := clZ_lt hf.2.2.1
      obtain ⟨t0, t1, t2⟩ := ftAll ci hci k hf.2.1
      split at hs
      next hz =>
        obtain ⟨v, st, rfl, h_1⟩ := pI_s hs
        obtain ⟨r, st, rfl, h_2⟩ := pR_s h_1
        obtain ⟨h0, h_3⟩ := if_s h_2
        cases h_3
        exact z_put0 hx hb hK hts hT hown hf (fcAll ci hci) (by omega) hd h0 hz (t0 hz) (kn _ _ _ _ rfl)
      next hz =>
        obtain ⟨v, st, rfl, h_4⟩ := pI_s hs
        obtain ⟨r, st, rfl, h_5⟩ := pR_s h_4
        obtain ⟨h0, h_6⟩ := if_s h_5
        cases h_6
        exact z_put1 hx hb hK hts hT hown hf (fcAll ci hci) (by omega) hd h0.1 hz (t1 hz) h0.2 (kn _ _ _ _ rfl)
      next hz =>
        obtain ⟨v, st, rfl, h_7⟩ := pR_s hs
        obtain ⟨r, st, rfl, h_8⟩ := pR_s h_7
        obtain ⟨h0, h_9⟩ := if_s h_8
        cases h_9
        exact z_put2 hx hb hK hts hT hown hf (fcAll ci hci) (by omega) hd h0.1 hz (t2 hz) h0.2 (kn _ _ _ _ rfl)
      next => cases hs
  case new idx =>
    unfold stepZ at hs
    dsimp only at hs
    cases hv : pxl (mC y) idx with
    | none => rw [hv] at hs; cases hs
    | some t =>
      rw [hv] at hs
      cases hs
      exact kt _ _ rfl hv rfl
  case ireturn =>
    obtain rfl : len = 1 := by simpa [insOk] using hk
    unfold stepZ at hs
    dsimp only at hs
    split at hs
    next z =>
      obtain ⟨hz, h_1⟩ := if_s hs
      cases h_1
      obtain rfl := kr _ rfl (show (1 : Nat) < 10 by decide)
      intro ls H locs h
      have hq : ∀ t : State, t.heap = H → s.WarmedH t.vm → QZ ad D cT (AZ ad s.heap.size) (1, (0, z), w) args s (.returned (some (.int (i32 z)))) t := fun t ht hW => by
        unfold QZ
        rw [if_pos rfl]
        exact ⟨⟨i32 z, (), rfl, ⟨rfl, h.top⟩, by rw [ht]; exact h.2.2.2.2.1, h.2.2.2.2.2.1.weaken (fun _ _ _ _ => trivial), hK.moved hW, h.2.2.2.1⟩, h.2.2.2.2.2.2.F ht⟩
      rcases hz with hz | ⟨hz, h01⟩
      · exact W.iret hx hb (by rw [hr, hz]; rfl) hq h.2.2.2.2.2.2.2.2 hd
      · exact W.zret (ty := .boolean) hx hb (by rw [hr, hz]; rfl) (by rcases h01 with q | q <;> subst q <;> rfl) hq h.2.2.2.2.2.2.2.2 hd
    next => cases hs
  case return_ =>
    obtain rfl : len = 1 := by simpa [insOk] using hk
    unfold stepZ at hs
    dsimp only at hs
    split at hs
    next =>
      obtain ⟨hz, h_1⟩ := if_s hs
      cases h_1
      obtain rfl := kr _ rfl (show (0 : Nat) < 10 by decide)
      intro ls H locs h
      have hq : ∀ t : State, t.heap = H → s.WarmedH t.vm → QZ ad D cT (AZ ad s.heap.size) (0, aU, w) args s (.returned none) t := fun t ht hW => by
        unfold QZ
        rw [if_neg (by show ¬ (0 : Nat) = 1; decide), if_neg (by show ¬ (0 : Nat) = 2; decide)]
        exact ⟨⟨(), rfl, trivial, by rw [ht]; exact h.2.2.2.2.1, h.2.2.2.2.2.1.weaken (fun _ _ _ _ => trivial), hK.moved hW, h.2.2.2.1⟩, h.2.2.2.2.2.2.F ht⟩
      exact W.vret hx hb (by rw [hr, hz]; rfl) hq h.2.2.2.2.2.2.2.2 hd
    next => cases hs
  case invokevirtual idx =>
    obtain rfl : len = 3 := by simpa [insOk] using hk
    unfold stepZ at hs
    dsimp only at hs
    cases hv : pml (mC y) idx with
    | none => rw [hv] at hs; cases hs
    | some j =>
      rw [hv] at hs
      obtain ⟨⟨hsj, hnj, hrj⟩, h_1⟩ := if_s hs
      have hj := pml_j hv
      have hnb : ¬ (60 ≤ j ∧ j ≤ 62) := fun z => absurd hsj (bi_st z)
      obtain ⟨hmc, hml20⟩ := mtt_f hj
      have hmc2 := hmc hsj
      obtain ⟨rr, as', has, hrr⟩ := recv_s hrj (by omega)
      obtain ⟨hst, hlen⟩ := arg_split hnj
      rw [has] at h_1 hst hlen
      have hF := fmAll j (by rw [← mtt_len]; exact hj) hnb
      have hln : Cond.methodLink (clsN (mC y)) idx (mN j) ∈ TBW := by
        rcases flAll (mC y) hcy _ (pml_lt hv) with z | ⟨z, -⟩
        · exact z
        · rw [hsj] at z; exact absurd z.2 (by decide)
      intro ls H locs h
      have hok : ∀ v ∈ aR rr :: as', okV v := fun v hv => h.2.2.1 v (by rw [hst]; exact List.mem_append_left _ (List.mem_reverse.mpr hv))
      have h' : SZ ad D cT (AZ ad s.heap.size) y s.heap ls als (st.drop (mNa j)) w H locs := ⟨h.1, h.2.1, fun v hv => h.2.2.1 v (List.mem_of_mem_drop hv), h.2.2.2⟩
      unfold doCall at h_1
      obtain ⟨hrl, h_2⟩ := if_s h_1
      split at h_2
      next hr0 =>
        split at h_2
        next v s' ee =>
          cases h_2
          obtain ⟨Ar, hrun⟩ := runVZ (r := (0, v, s')) C0 hK hR hml20 hF hsj hln hlen hrr (by omega) (clzAll _ hmc2) hrl hd (hC ad D cT j _ w _ H.size hj hnb ee hok (by show (0 : Nat) < 10; decide)) h h.1.1 hst
          exact goesV hA h' rfl hrun (kn _ _ _ _ rfl) (j := j)
        next => cases h_2
      next hr0 =>
        split at h_2
        next z s' ee =>
          cases h_2
          obtain ⟨Ar, hrun⟩ := runVZ (r := (1, (0, z), s')) C0 hK hR hml20 hF hsj hln hlen hrr (by omega) (clzAll _ hmc2) hrl hd (hC ad D cT j _ w _ H.size hj hnb ee hok (by show (1 : Nat) < 10; decide)) h h.1.1 hst
          exact goesI hA h' rfl hrun (kn _ _ _ _ rfl) (j := j)
        next => cases h_2
  case invokestatic idx =>
    obtain rfl : len = 3 := by simpa [insOk] using hk
    unfold stepZ at hs
    dsimp only at hs
    cases hv : pml (mC y) idx with
    | none => rw [hv] at hs; cases hs
    | some j =>
      rw [hv] at hs
      dsimp only at hs
      have hj := pml_j hv
      have hlnA := flAll (mC y) hcy _ (pml_lt hv)
      split at hs
      next hj1 =>
        subst hj1
        obtain ⟨n, st, rfl, h_1⟩ := pI_s hs
        obtain ⟨dp, st, rfl, h_2⟩ := pI_s h_1
        obtain ⟨b, st, rfl, h_3⟩ := pR_s h_2
        obtain ⟨sp, st, rfl, h_4⟩ := pI_s h_3
        obtain ⟨a, st, rfl, h_5⟩ := pR_s h_4
        obtain ⟨h0, h_6⟩ := if_s h_5
        cases h_6
        exact z_copy C0 hK rfl ⟨by omega, by omega⟩ (fl_plain hlnA (by decide)) h0 hd (kn _ _ _ _ rfl)
      next hj1 =>
        split at hs
        next hj2 =>
          subst hj2
          obtain ⟨b, st, rfl, h_1⟩ := pI_s hs
          obtain ⟨a, st, rfl, h_2⟩ := pI_s h_1
          obtain ⟨h0, h_3⟩ := if_s h_2
          cases h_3
          exact z_max C0 rfl ⟨by omega, by omega⟩ (fl_plain hlnA (by decide)) h0 hd (kn _ _ _ _ rfl)
        next hj2 =>
          split at hs
          next hj3 =>
            subst hj3
            obtain ⟨b, st, rfl, h_1⟩ := pI_s hs
            obtain ⟨a, st, rfl, h_2⟩ := pI_s h_1
            obtain ⟨h0, h_3⟩ := if_s h_2
            cases h_3
            exact z_min C0 rfl ⟨by omega, by omega⟩ (fl_plain hlnA (by decide)) h0 hd (kn _ _ _ _ rfl)
          next hj3 =>
            obtain ⟨⟨hsj, hnj⟩, h_1⟩ := if_s hs
            have hnb : ¬ (60 ≤ j ∧ j ≤ 62) := fun z => by omega
            obtain ⟨hmc, hml20⟩ := mtt_f hj
            obtain ⟨hst, hlen⟩ := arg_split hnj
            have hF := fmAll j (by rw [← mtt_len]; exact hj) hnb
            intro ls H locs h
            have hok : ∀ v ∈ (st.take (mNa j)).reverse, okV v := fun v hv => h.2.2.1 v (List.mem_of_mem_take (List.mem_reverse.mp hv))
            have h' : SZ ad D cT (AZ ad s.heap.size) y s.heap ls als (st.drop (mNa j)) w H locs := ⟨h.1, h.2.1, fun v hv => h.2.2.1 v (List.mem_of_mem_drop hv), h.2.2.2⟩
            unfold doCall at h_1
            obtain ⟨hrl, h_2⟩ := if_s h_1
            split at h_2
            next hr0 =>
              split at h_2
              next v s' ee =>
                cases h_2
                obtain ⟨Ar, hrun⟩ := runSZ (r := (0, v, s')) C0 hK hR hml20 hF hsj hlnA hlen hrl hd (hC ad D cT j _ w _ H.size hj hnb ee hok (by show (0 : Nat) < 10; decide)) h h.1.1 hst
                exact goesV hA h' rfl hrun (kn _ _ _ _ rfl) (j := j)
              next => cases h_2
            next hr0 =>
              split at h_2
              next z s' ee =>
                cases h_2
                obtain ⟨Ar, hrun⟩ := runSZ (r := (1, (0, z), s')) C0 hK hR hml20 hF hsj hlnA hlen hrl hd (hC ad D cT j _ w _ H.size hj hnb ee hok (by show (1 : Nat) < 10; decide)) h h.1.1 hst
                exact goesI hA h' rfl hrun (kn _ _ _ _ rfl) (j := j)
              next => cases h_2
  all_goals (unfold stepZ at hs; cases hs)
end ZW
