theorem ixb_mono {L L' : Nat} (h : L ≤ L') {e : Jvm.Term} (hi : ixb L e) : ixb L' e := by
  revert hi
  fun_induction ixb L e with
  | case1 g => exact fun hi => Nat.lt_of_lt_of_le hi h
  | case2 a ih => exact fun hi => ih hi
  | case3 x a ih => exact fun hi => ih hi
  | case4 c a b iha ihb => exact fun hi => ⟨iha hi.1, ihb hi.2⟩
  | case5 c a b ihc iha ihb => exact fun hi => ⟨ihc hi.1, iha hi.2.1, ihb hi.2.2⟩
  | case6 e h1 h2 h3 h4 h5 =>
    intro _
    unfold ixb
    split
    · exact absurd rfl (h1 _)
    · exact absurd rfl (h2 _)
    · exact absurd rfl (h3 _ _)
    · exact absurd rfl (h4 _ _ _)
    · exact absurd rfl (h5 _ _ _)
    · trivial
/-- no choice by a condition in it -/
def nel : Jvm.Term → Prop
  | .old a => nel a
  | .mul _ a => nel a
  | .div _ (.rem a b) => nel a ∧ nel b
  | .sub c (.rem a b) => nel c ∧ nel a ∧ nel b
  | .elem _ _ => False
  | _ => True
theorem nel_occ {L h : Nat} {e : Jvm.Term} (hn : nel e) (hi : ixb L e) (ho : occ h e) : h < L := by
  revert hn hi ho
  fun_induction occ h e with
  | case1 g => exact fun _ hi ho => ho ▸ hi
  | case2 a ih => exact fun hn hi ho => ih hn hi ho
  | case3 x a ih => exact fun hn hi ho => ih hn hi ho
  | case4 c a b iha ihb => exact fun hn hi ho => ho.elim (iha hn.1 hi.1) (ihb hn.2 hi.2)
  | case5 c a b ihc iha ihb => exact fun hn hi ho => ho.elim (ihc hn.1 hi.1) fun z => z.elim (iha hn.2.1 hi.2.1) (ihb hn.2.2 hi.2.2)
  | case6 c a b ihc iha ihb => exact fun hn => hn.elim
  | case7 => exact fun _ _ ho => ho.elim
def shp (e : Jvm.Term) : Prop := (∀ c a b, e ≠ .elem c (.rem a b)) ∧ e ≠ .null ∧ ini e = true ∧ nel e
theorem rE_good {env : EnvT} {L : Nat} (hE : eOK env L) {e e' : Jvm.Term} (h : rE env e = some e') : ixb L e' ∧ shp e' := by
  fun_induction rE env e generalizing e' with
  | case1 a a' ha ih => cases h; exact ⟨(ih ha).1, fun _ _ _ => nofun, nofun, rfl, (ih ha).2.2.2.2⟩
  | case2 a ha ih => exact (nomatch h)
  | case3 x a a' ha ih => cases h; exact ⟨(ih ha).1, fun _ _ _ => nofun, nofun, rfl, (ih ha).2.2.2.2⟩
  | case4 x a ha ih => exact (nomatch h)
  | case5 c a b a' ha b' hb iha ihb => cases h; exact ⟨⟨(iha ha).1, (ihb hb).1⟩, fun _ _ _ => nofun, nofun, rfl, (iha ha).2.2.2.2, (ihb hb).2.2.2.2⟩
  | case6 => exact (nomatch h)
  | case7 => exact (nomatch h)
  | case8 c a b c' hc a' ha b' hb ihc iha ihb => cases h; exact ⟨⟨(ihc hc).1, (iha ha).1, (ihb hb).1⟩, fun _ _ _ => nofun, nofun, rfl, (ihc hc).2.2.2.2, (iha ha).2.2.2.2, (ihb hb).2.2.2.2⟩
  | case9 => exact (nomatch h)
  | case10 => exact (nomatch h)
  | case11 => exact (nomatch h)
  | case12 nm r g t f hl ht =>
    cases h
    obtain ⟨h1, h2⟩ := lk_ok hE hl
    have : 1 ≤ tsz t := by
      unfold isGr at ht
      split at ht
      · exact Nat.le_refl _
      · exact (nomatch ht)
    exact ⟨by show g < L; omega, fun _ _ _ => nofun, nofun, rfl, trivial⟩
  | case13 => exact (nomatch h)
  | case14 => exact (nomatch h)
  | case15 v => cases h; exact ⟨trivial, fun _ _ _ => nofun, nofun, rfl, trivial⟩
  | case16 => exact (nomatch h)
def SGI (L : Nat) (x : Sg) : Prop := (x.2.2.1 ≤ 1 ∧ x.2.2.2.1 ≤ 16) ∧ (x.1 = 4 ↔ x.2.2.2.2 ≠ .null) ∧ (x.1 = 4 → x.2.2.2.1 = 0) ∧ ixb L x.2.2.2.2 ∧ nel x.2.2.2.2
def LOI (L : Nat) (x : Lo) : Prop := ixb L x.2.2 ∧ (x.1 = 0 → x.2.1 < L ∧ shp x.2.2) ∧ nel x.2.2
theorem SGI_mono {L L' : Nat} (h : L ≤ L') {x : Sg} (r : SGI L x) : SGI L' x := ⟨r.1, r.2.1, r.2.2.1, ixb_mono h r.2.2.2.1, r.2.2.2.2⟩
theorem LOI_mono {L L' : Nat} (h : L ≤ L') {x : Lo} (r : LOI L x) : LOI L' x := ⟨ixb_mono h r.1, fun z => ⟨Nat.lt_of_lt_of_le (r.2.1 z).1 h, (r.2.1 z).2⟩, r.2.2⟩
theorem wfB_zeros : ∀ (l : List Lo) (d : List Bool) (r : List Lo), (∀ x, x ∈ l → x.1 = 0) → wfB d r → wfB d (l ++ r)
  | [], _, _, _, h => h
  | (o, g, e) :: l, d, r, h0, h => by
    have ho : o = 0 := h0 (o, g, e) List.mem_cons_self
    subst ho
    have := wfB_zeros l d r (fun x hx => h0 x (List.mem_cons_of_mem _ hx)) h
    show wfB d ((0, g, e) :: (l ++ r))
    cases d <;> exact this
/-- what a step of the check gives -/
def CG (env' : EnvT) (sg sg' : List Sg) (lo' : List Lo) (cv : List (Option Jvm.Term)) : Prop :=
  eOK env' sg'.length ∧ sg.length ≤ sg'.length ∧ (∀ x, x ∈ sg' → SGI sg'.length x) ∧ (∀ x, x ∈ lo' → LOI sg'.length x) ∧ (∀ e, some e ∈ cv → ixb sg'.length e)
theorem cn_good {env : EnvT} {sg : List Sg} {l e : Jvm.Term} {lo : List Lo} (hE : eOK env sg.length) (h : cn env sg l e = some lo) : (∀ x, x ∈ lo → LOI sg.length x ∧ x.1 = 0) ∧ (∀ e', cvR env l e = some e' → ixb sg.length e') := by
  unfold cn at h
  split at h
  next nm r =>
    split at h
    next to ty f hl =>
      obtain ⟨w1, w2⟩ := lk_ok hE hl
      have hcv : cvR env (.add (.arg nm) r) e = if isGr ty = true then rE env e else none := by
        show (match lk env nm r with
          | some (_, ty, _) => if isGr ty = true then rE env e else none
          | none => none) = _
        rw [hl]
      split at h
      next hg =>
        have ht : 1 ≤ tsz ty := by
          unfold isGr at hg
          split at hg
          · exact Nat.le_refl _
          · exact (nomatch hg)
        unfold cnG at h
        split at h
        next e' he =>
          obtain ⟨g1, g2⟩ := rE_good hE he
          split at h
          · cases h
            refine ⟨fun x hx => ?_, fun e'' h'' => ?_⟩
            · rw [List.mem_singleton] at hx
              rw [hx]
              exact ⟨⟨g1, fun _ => ⟨by show to < sg.length; omega, g2⟩, g2.2.2.2⟩, rfl⟩
            · rw [hcv, if_pos hg, he] at h''
              cases h''
              exact g1
          · exact (nomatch h)
        next => exact (nomatch h)
      next hg =>
        refine ⟨?_, fun e'' h'' => by rw [hcv, if_neg hg] at h''; exact (nomatch h'')⟩
        unfold cnB at h
        split at h
        · split at h
          next fr ty2 f2 hl2 =>
            obtain ⟨w3, w4⟩ := lk_ok hE hl2
            split at h
            · exact (nomatch h)
            · split at h
              next ha =>
                have hz := alk_tsz ha
                split at h
                · cases h
                  intro x hx
                  obtain ⟨p, hp, rfl⟩ := List.mem_map.mp hx
                  obtain ⟨i, hi, rfl⟩ := List.mem_map.mp hp
                  have hi := List.mem_range.mp hi
                  have hb : (if (lf ty i 0).2 % 2 = 1 then (fr + i, to + i) else (to + i, fr + i)).1 < sg.length ∧ (if (lf ty i 0).2 % 2 = 1 then (fr + i, to + i) else (to + i, fr + i)).2 < sg.length := by split <;> (dsimp only; omega)
                  exact ⟨⟨hb.2, fun _ => ⟨hb.1, fun _ _ _ => nofun, nofun, rfl, trivial⟩, trivial⟩, rfl⟩
                · exact (nomatch h)
              next => exact (nomatch h)
          next => exact (nomatch h)
        · exact (nomatch h)
    next => exact (nomatch h)
  next => exact (nomatch h)
theorem ck1_good {env env' : EnvT} {sg sg' : List Sg} {lo' : List Lo} {i : It} (hE : eOK env sg.length) (hG : IG i) (hsg : ∀ x, x ∈ sg → SGI sg.length x) (h : ck1 env sg i = some (env', sg', lo')) :
    CG env' sg sg' lo' (cv1 env i) ∧ ∀ (d : List Bool) (its : List It) (r : List Lo), wfI d (i :: its) → (∀ d', wfI d' its → wfB d' r) → wfB d (lo' ++ r) := by
  unfold ck1 at h
  by_cases h4 : i.1 = 4
  · rw [if_pos h4] at h
    have hg : i.2.2.2.1 < 4 ∧ tgd true i.2.2.2.2.2 ∧ dpt i.2.2.2.2.2 ≤ 3 := by
      rcases hG with ⟨a, -⟩ | ⟨a, -⟩ | a | a | ⟨a, b⟩ | ⟨a, -⟩
      · omega
      · omega
      · omega
      · omega
      · exact b
      · omega
    split at h
    next hc =>
      cases h
      have hl : (sg ++ sgOf i.2.2.2.1 i.2.2.1 i.2.2.2.2.2).length = sg.length + tsz i.2.2.2.2.2 := by rw [List.length_append, sgOf_len]
      refine ⟨⟨?_, by omega, fun x hx => ?_, fun x hx => (nomatch hx), fun e he => ?_⟩, fun d its r hw hr => ?_⟩
      · exact eOK_up hE (by omega) (by omega) (by omega) (tgd_pos hg.2.1)
      · rcases List.mem_append.mp hx with hx | hx
        · exact SGI_mono (by omega) (hsg x hx)
        · obtain ⟨j, hj⟩ := List.getElem?_of_mem hx
          obtain ⟨-, rfl⟩ := sgOf_get hj
          refine ⟨⟨by dsimp only; omega, lf_16 hg.2.1⟩, ⟨fun z => ?_, fun z => absurd rfl z⟩, fun z => ?_, trivial, trivial⟩
          · dsimp only at z; omega
          · dsimp only at z; omega
      · unfold cv1 at he
        rw [if_neg (by omega), if_neg (by omega)] at he
        exact (nomatch he)
      · unfold wfI at hw
        rw [if_neg (by omega), if_neg (by omega), if_neg (by omega)] at hw
        exact hr d hw
    next => exact (nomatch h)
  rw [if_neg h4] at h
  by_cases h5 : i.1 = 5
  · rw [if_pos h5] at h
    split at h
    next hc =>
      split at h
      next e' he =>
        cases h
        obtain ⟨g1, g2⟩ := rE_good hE he
        have hl : (sg ++ [((4, i.2.2.1, 0, 0, e') : Sg)]).length = sg.length + 1 := by rw [List.length_append]; rfl
        refine ⟨⟨?_, by omega, fun x hx => ?_, fun x hx => (nomatch hx), fun e he2 => ?_⟩, fun d its r hw hr => ?_⟩
        · exact eOK_up hE (by omega) (by rw [hl]; exact Nat.le_refl _) (by decide) (by decide)
        · rcases List.mem_append.mp hx with hx | hx
          · exact SGI_mono (by omega) (hsg x hx)
          · rw [List.mem_singleton] at hx
            rw [hx]
            exact ⟨⟨Nat.zero_le _, Nat.zero_le _⟩, ⟨fun _ => g2.2.1, fun _ => rfl⟩, fun _ => rfl, ixb_mono (by omega) g1, g2.2.2.2⟩
        · unfold cv1 at he2
          rw [if_pos (Or.inl h5), he, List.mem_singleton] at he2
          cases he2
          exact ixb_mono (by omega) g1
        · unfold wfI at hw
          rw [if_neg (by omega), if_neg (by omega), if_neg (by omega)] at hw
          exact hr d hw
      next => exact (nomatch h)
    next => exact (nomatch h)
  rw [if_neg h5] at h
  by_cases h0 : i.1 = 0
  · rw [if_pos h0] at h
    split at h
    next lo hc =>
      cases h
      obtain ⟨g1, g2⟩ := cn_good hE hc
      refine ⟨⟨hE, Nat.le_refl _, hsg, fun x hx => (g1 x hx).1, fun e he => ?_⟩, fun d its r hw hr => ?_⟩
      · unfold cv1 at he
        rw [if_neg (by omega), if_pos h0] at he
        rcases List.mem_cons.mp he with he | he
        · exact (nomatch he)
        · rw [List.mem_singleton] at he
          exact g2 e he.symm
      · unfold wfI at hw
        rw [if_neg (by omega), if_neg (by omega), if_neg (by omega)] at hw
        exact wfB_zeros lo' d r (fun x hx => (g1 x hx).2) (hr d hw)
    next => exact (nomatch h)
  rw [if_neg h0] at h
  by_cases h1 : i.1 = 1
  · rw [if_pos h1] at h
    split at h
    next e' he =>
      cases h
      obtain ⟨g1, g2⟩ := rE_good hE he
      refine ⟨⟨hE, Nat.le_refl _, hsg, fun x hx => ?_, fun e he2 => ?_⟩, fun d its r hw hr => ?_⟩
      · rw [List.mem_singleton] at hx
        rw [hx]
        exact ⟨g1, fun z => absurd (show (1 : Nat) = 0 from z) (by decide), g2.2.2.2⟩
      · unfold cv1 at he2
        rw [if_pos (Or.inr h1), he, List.mem_singleton] at he2
        cases he2
        exact g1
      · unfold wfI at hw
        rw [if_pos h1] at hw
        show wfB d ((1, 0, e') :: r)
        cases d <;> exact ⟨hw.1, hr _ hw.2⟩
    next => exact (nomatch h)
  rw [if_neg h1] at h
  have h23 : i.1 = 2 ∨ i.1 = 3 := by
    rcases hG with ⟨a, -⟩ | ⟨a, -⟩ | a | a | ⟨a, -⟩ | ⟨a, -⟩ <;> omega
  cases h
  refine ⟨⟨hE, Nat.le_refl _, hsg, fun x hx => ?_, fun e he2 => ?_⟩, fun d its r hw hr => ?_⟩
  · rw [List.mem_singleton] at hx
    rw [hx]
    exact ⟨trivial, fun z => absurd z h0, trivial⟩
  · unfold cv1 at he2
    rw [if_neg (by omega), if_neg (by omega)] at he2
    exact (nomatch he2)
  · unfold wfI at hw
    rw [if_neg h1] at hw
    rcases h23 with h2 | h3
    · rw [if_pos h2] at hw
      obtain ⟨d', rfl, hw⟩ := hw
      rw [h2]
      exact ⟨rfl, hr _ hw⟩
    · rw [if_neg (by omega), if_pos h3] at hw
      obtain ⟨b, d', rfl, hw⟩ := hw
      rw [h3]
      exact hr _ hw
