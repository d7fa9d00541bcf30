/-! THE CLASS: from the check to what runs -/
theorem cst_len : ∀ (its : List It) (env : EnvT) (sg : List Sg) (lo : List Lo) (r : List Sg × List Lo), ckA env sg lo its = .ok r → (cst env sg its).length = its.length := by
  intro its
  induction its with
  | nil => intro env sg lo r _; rfl
  | cons i r ih =>
    intro env sg lo q h
    rw [ckA] at h
    rw [cst]
    cases hc : ck1 env sg i with
    | none => rw [hc] at h; cases h
    | some y =>
      obtain ⟨env1, sg1, lo1⟩ := y
      rw [hc] at h
      dsimp only at h ⊢
      rw [List.length_cons, List.length_cons, ih env1 sg1 _ q h]
def NMc (s : Mem) (o : Nat) (sg : List Sg) : Prop := ∀ (i : Nat) (x : Sg), sg[i]? = some x → s (61 + o) i = x.2.1
theorem m_check {d o P U C N : Nat} {T : Tx} {its : List It} {s : Mem} (hd : 10 ≤ d) (ho : o = 0 ∨ o = 26) (hp : pAll T = .ok its) (hI : CIs s o P U C 0 25 (nrm [] its)) (hcn : CN s o (nrm [] its).length (25 + nszs (nrm [] its)) P U C) (hb : (nrm [] its).length ≤ 200 ∧ 25 + nszs (nrm [] its) ≤ 225 ∧ P ≤ 200 ∧ 1 ≤ U ∧ U ≤ 201 ∧ C ≤ 200) (ht0 : s 115 0 = 0 ∧ s 116 0 = 0 ∧ s 118 0 = 1) (hN : N = 25 + nszs (nrm [] its)) :
    match ckA (fun _ => none) [] [] its with
    | .ok (sg, lo) => ∃ s' xs, Zc d 77 [aR 133, aR (58 + o)] s = rI (-1) s' ∧ ZS s' o N sg (cvA (fun _ => none) [] (nrm [] its)) xs ∧ SGA s' o sg ∧ NMc s' o sg ∧ (∀ (i : Nat) (x : Sg), sg[i]? = some x → s' (62 + o) i = x.2.2.2.1) ∧ s' (58 + o) 2 = ((lo.filter (fun x => x.1 == 0)).length : Nat) ∧ nrmL [] lo = xs.flatMap (fun x => x.2.2) ∧ xs = cst (fun _ => none) [] (nrm [] its) ∧ Fr (fun c j => CKG o c j ∨ c = 133) s s'
    | .error p => ∃ s', Zc d 77 [aR 133, aR (58 + o)] s = rI p s' ∧ Fr (fun c j => CKG o c j ∨ c = 133) s s' := by
  have h := k_typeErrorIn hd ho hI hcn hb ht0 (nrm_iC hp) hN
  have hk : ckA (fun _ => none) [] [] (nrm [] its) = match ckA (fun _ => none) [] [] its with
    | .ok (sg', l) => .ok (sg', nrmL [] l)
    | .error p => .error p := ckA_nrm its [] (fun _ => none) []
  rw [hk] at h
  cases hc : ckA (fun _ => none) [] [] its with
  | error p => rw [hc] at h; exact h
  | ok y =>
    obtain ⟨sg, lo⟩ := y
    rw [hc] at h hk
    dsimp only at h hk ⊢
    obtain ⟨s', a1, ⟨⟨env, a2⟩, a3, a4, a5, a6⟩, a7⟩ := h
    obtain ⟨c1, c2, c3, c4, c5, c6, c7, c8, c9, c10, c11⟩ := a2
    have hlen := cst_len _ _ _ _ _ hk
    refine ⟨s', _, a1, ⟨?_, by rw [hlen]; exact hb.1, ?_, ⟨by omega, by omega⟩, c4, c5, ho, a3, a4, fun i x hx => (c6 i x hx).2.2.2.2.2⟩, ⟨c4, c5, fun i x hx => ⟨(c6 i x hx).1, (c6 i x hx).2.2.2.2.1⟩⟩, fun i x hx => (c6 i x hx).2.1, fun i x hx => (c6 i x hx).2.2.2.1, by rw [a5, nrmL_filter], a6, rfl, a7⟩
    · rw [hlen, a7 _ _ (by unfold CKG SGF; omega), hcn.1]
    · rw [a7 _ _ (by unfold CKG SGF; omega), hcn.2.1, hN]
/-- what stays of the circuit while it is lowered -/
theorem m_lower {d o N : Nat} {T : Tx} {its : List It} {sg : List Sg} {lo : List Lo} {xs : List (Nat × Nat × List Lo)} {W : Nat → Nat} {s : Mem} (hd : 5 ≤ d) (ho : o = 0 ∨ o = 26) (hT : T.2 ≤ 200) (hp : pAll T = .ok its) (hc : ckA (fun _ => none) [] [] its = .ok (sg, lo)) (hZ : ZS s o N sg (cvA (fun _ => none) [] (nrm [] its)) xs) (hS : SGA s o sg) (hW : SWc s o sg.length W) (hA : WAc s o W N) (hfl : nrmL [] lo = xs.flatMap (fun x => x.2.2)) (hxs : xs = cst (fun _ => none) [] (nrm [] its)) :
    ∃ s' K, Zc d 102 [aR 137, aR (58 + o)] s = rV s' ∧ CIR s' o N K sg lo W ∧ Fr (LWY o) s s' := by
  have hX := t_txt hT hp hc
  have hk : ckA (fun _ => none) [] [] (nrm [] its) = .ok (sg, nrmL [] lo) := by rw [ckA_nrm, hc]
  obtain ⟨z1, z2, z3, ⟨z4, z4'⟩, z5, z6, z7, z8, z9, z10⟩ := hZ
  obtain ⟨s', K, a1, a2, a3, a4, a5⟩ := k_lower hd ho hS z4 z4' z3 z9 z1 z2 z8 hfl (wfN_nrm hX.2.2.2.1) (by
    have h1 := wgX_cst (nrm [] its) (fun _ => none) []
    have h2 := pAll_w hp
    rw [wI_nrm] at h1
    rw [hxs]
    omega) (fun g x hx h4 => by
    rw [hxs]
    exact (cst_node _ _ _ _ _ _ (nrm_k4 hp) hk g x hx h4).resolve_left (fun z => by simp at z))
  refine ⟨s', K, a1, CIR_of hX.2.2.2.1 (SGA_put hS (a5 _ _ (by unfold LWY; omega)) (fun j => ⟨a5 _ _ (by unfold LWY; omega), a5 _ _ (by unfold LWY; omega)⟩)) (fun g hg => by rw [a5 _ _ (by unfold LWY; omega)]; exact hW g hg) (WAc_fr hA (fun k j hk => a5 _ _ (by unfold LWY; omega))) z4' a2 a3 a4, a5⟩
