theorem ckA_good : ∀ (its : List It) (env : EnvT) (sg : List Sg) (lo : List Lo) (sg' : List Sg) (lo2 : List Lo), eOK env sg.length → (∀ i, i ∈ its → IG i) → (∀ x, x ∈ sg → SGI sg.length x) → ckA env sg lo its = .ok (sg', lo2) →
    sg.length ≤ sg'.length ∧ ∃ r, lo2 = lo ++ r ∧ (∀ x, x ∈ sg' → SGI sg'.length x) ∧ (∀ x, x ∈ r → LOI sg'.length x) ∧ (∀ e, some e ∈ cvA env sg its → ixb sg'.length e) ∧ ∀ d, wfI d its → wfB d r
  | [], env, sg, lo, sg', lo2, _, _, hs, h => by
    unfold ckA at h
    cases h
    refine ⟨Nat.le_refl _, [], (List.append_nil _).symm, hs, fun x hx => (nomatch hx), fun e he => ?_, fun d hd => ?_⟩
    · unfold cvA at he
      exact (nomatch he)
    · exact hd
  | i :: its, env, sg, lo, sg', lo2, hE, hI, hs, h => by
    unfold ckA at h
    split at h
    next env1 sg1 lo1 hc =>
      obtain ⟨⟨g1, g2, g3, g4, g5⟩, g6⟩ := ck1_good hE (hI i List.mem_cons_self) hs hc
      obtain ⟨k1, r, rfl, k2, k3, k4, k5⟩ := ckA_good its env1 sg1 (lo ++ lo1) sg' lo2 g1 (fun j hj => hI j (List.mem_cons_of_mem _ hj)) g3 h
      refine ⟨Nat.le_trans g2 k1, lo1 ++ r, List.append_assoc _ _ _, k2, fun x hx => ?_, fun e he => ?_, fun d hd => g6 d its r hd k5⟩
      · rcases List.mem_append.mp hx with hx | hx
        · exact LOI_mono k1 (g4 x hx)
        · exact k3 x hx
      · unfold cvA at he
        rw [hc] at he
        rcases List.mem_append.mp he with he | he
        · exact ixb_mono k1 (g5 e he)
        · exact k4 e he
    next => exact (nomatch h)
def OFm (L : Nat) (f : Fm) : Prop := (∀ h, occ h f.1 → h < L) ∧ (∀ t, f.2.1 = some t → ∀ h, occ h t → h < L) ∧ (∀ h, occ h f.2.2.1 → h < L)
theorem occ_lwF {L g : Nat} {lo : List Lo} {now : Jvm.Term} {st : List Fm} (hl : ∀ x, x ∈ lo → ∀ h, occ h x.2.2 → h < L) (hn : ∀ h, occ h now → h < L) (hs : ∀ f, f ∈ st → OFm L f) : ∀ h, occ h (lwF g lo now st) → h < L := by
  revert hl hn hs
  fun_induction lwF g lo now st with
  | case1 now st => exact fun _ hn _ => hn
  | case2 now st e r ih =>
    intro hl hn hs
    refine ih (fun x hx => hl x (List.mem_cons_of_mem _ hx)) (hl _ List.mem_cons_self) fun f hf => ?_
    obtain ⟨f0, h0, rfl⟩ := List.mem_map.mp hf
    exact hs f0 h0
  | case3 now st sk e r hne ih =>
    exact fun hl hn hs => ih (fun x hx => hl x (List.mem_cons_of_mem _ hx)) hn hs
  | case4 now st x c r ih =>
    intro hl hn hs
    refine ih (fun x hx => hl x (List.mem_cons_of_mem _ hx)) hn fun f hf => ?_
    rcases List.mem_cons.mp hf with rfl | hf
    · exact ⟨hn, fun t ht => (nomatch ht), hl _ List.mem_cons_self⟩
    · exact hs f hf
  | case5 now x y r f st ih =>
    intro hl hn hs
    refine ih (fun x hx => hl x (List.mem_cons_of_mem _ hx)) (hs f List.mem_cons_self).1 fun f' hf => ?_
    rcases List.mem_cons.mp hf with rfl | hf
    · exact ⟨(hs f List.mem_cons_self).1, fun t ht => by cases ht; exact hn, (hs f List.mem_cons_self).2.2⟩
    · exact hs f' (List.mem_cons_of_mem _ hf)
  | case6 now x y r f st ih =>
    intro hl hn hs
    have hf := hs f List.mem_cons_self
    refine ih (fun x hx => hl x (List.mem_cons_of_mem _ hx)) (fun h ho => ?_) fun f' hf => hs f' (List.mem_cons_of_mem _ hf)
    unfold fmC at ho
    split at ho
    · split at ho
      · rcases ho with ho | ho | ho
        · exact hf.2.2 h ho
        · exact hn h ho
        · exact hf.1 h ho
      next t ht =>
        rcases ho with ho | ho | ho
        · exact hf.2.2 h ho
        · exact hf.2.1 t ht h ho
        · exact hn h ho
    · exact hn h ho
  | case7 now st x r h1 h2 h3 h4 ih =>
    exact fun hl hn hs => ih (fun x hx => hl x (List.mem_cons_of_mem _ hx)) hn hs
theorem wfL_B : ∀ (r : List Lo) (d : List Bool), wfB d r → wfL d.length r
  | [], d, _ => by cases d <;> trivial
  | (0, g, e) :: r, d, h => by
    have h' : wfB d r := by cases d <;> exact h
    exact wfL_B r d h'
  | (1, g, e) :: r, d, h => by
    have h' : d.length < 3 ∧ wfB (false :: d) r := by cases d <;> exact h
    exact ⟨h'.1, wfL_B r (false :: d) h'.2⟩
  | (2, g, e) :: r, [], h => h.elim
  | (2, g, e) :: r, b :: d, h => by
    have h' : b = false ∧ wfB (true :: d) r := h
    exact ⟨Nat.succ_le_succ (Nat.zero_le _), wfL_B r (true :: d) h'.2⟩
  | (3, g, e) :: r, [], h => h.elim
  | (3, g, e) :: r, b :: d, h => by
    have h' : wfB d r := h
    exact ⟨Nat.succ_le_succ (Nat.zero_le _), wfL_B r d h'⟩
  | (o + 4, g, e) :: r, d, h => by cases d <;> exact h.elim
/-- a text of at most 200 signs is as compile needs it -/
theorem t_oks {T : Tx} (hT : T.2 ≤ 200) : OKS T := by
  intro its hp
  have hp' : pIts T (T.2 + 1) [] (sk T 0) = .ok its := hp
  obtain ⟨a1, a2, a3⟩ := pIts_ok _ [] _ its (sk_le T (Nat.zero_le _)) (fun b hb => (nomatch hb)) hp'
  refine ⟨fun i hi => IG_iOK (a1 i hi), by omega, fun sg lo hc => ?_⟩
  obtain ⟨b1, r, hr, b2, b3, b4, b5⟩ := ckA_good its (fun _ => none) [] [] sg lo (fun d t b h => (nomatch (show (none : Option (Jvm.Term × Nat)) = some (t, b) from h))) a1 (fun x hx => (nomatch hx)) hc
  rw [List.nil_append] at hr
  subst hr
  have hB := b5 [] a2
  have hocc : ∀ x, x ∈ lo → ∀ h, occ h x.2.2 → h < sg.length := fun x hx h ho => nel_occ (b3 x hx).2.2 (b3 x hx).1 ho
  refine ⟨⟨fun i x hx => (b2 x (List.mem_of_getElem? hx)).2.2.2.1, fun k x hx => ⟨(b3 x (List.mem_of_getElem? hx)).1, fun z => ((b3 x (List.mem_of_getElem? hx)).2.1 z).1⟩, b4⟩, fun j x hx => ?_, ⟨hB, fun k x hx h0 val W v0 => ?_, fun g h hd => ?_, fun g x hx => ?_⟩, fun k x hx h0 => ?_, wfL_B lo [] hB⟩
  · obtain ⟨c1, c2, c3, c4⟩ := b2 x (List.mem_of_getElem? hx)
    exact ⟨c1.1, c1.2, fun z => c3 (c2.mpr z)⟩
  · have := ((b3 x (List.mem_of_getElem? hx)).2.1 h0).2
    exact vF_src this.2.1 this.1 val W v0
  · obtain ⟨x, hx, hk, ho⟩ := hd
    obtain ⟨c1, c2, c3, c4, c5⟩ := b2 x (List.mem_of_getElem? hx)
    have hg : g < sg.length := (List.getElem?_eq_some_iff.mp hx).1
    unfold form at ho
    rw [hx] at ho
    dsimp only at ho
    split at ho
    · exact nel_occ c5 c4 ho
    · refine occ_lwF (st := []) hocc (fun h ho => ?_) (fun f hf => (nomatch hf)) h ho
      split at ho
      · have : h = g := ho
        omega
      · exact ho.elim
  · obtain ⟨c1, c2, c3, c4⟩ := b2 x (List.mem_of_getElem? hx)
    exact ⟨c2, c3⟩
  · exact ((b3 x (List.mem_of_getElem? hx)).2.1 h0).2.2.2.1
/-- compile on the reference's state, with nothing left open -/
theorem t_compileR {d : Nat} {s : Mem} {T : Tx} {w : Int} {cp : Bool} {lv : Live} {st val bf ch : Nat → Int} {ck cn : Int} (hd : 11 ≤ d) (h : RA s T w cp lv st val bf ch ck cn) :
    ∃ (s' : Mem) (w' th : Int) (live : Option Live), CMP T w' th live ∧ s' 0 4 = th ∧ match live with
      | none => Zc d 46 [aR 0] s = rI 0 s' ∧ RA s' T w' cp lv st val bf ch ck cn
      | some lv' => ∃ st' val', Zc d 46 [aR 0] s = rI (lv'.1.length : Nat) s' ∧ (∀ j, j < lv'.1.length → st' j = 0) ∧ RA s' T w' true lv' st' val' (fun _ => 0) (fun _ => 0) 0 ((lv'.2.1.filter (fun x => x.1 == 0)).length : Nat) := by
  have h2 := tx_le h.2.1
  rw [h.1] at h2
  exact t_compileRA hd (t_oks h2) h
