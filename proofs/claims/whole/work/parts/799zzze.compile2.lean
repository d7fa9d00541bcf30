/-! THE CLASS: compile -/
theorem CIs_off {s s' : Mem} {o P M C : Nat} (f : ∀ k j, k ≠ 56 → s' k j = s k j) (ho : o = 0 ∨ o = 26) : ∀ (l : List It) (k n : Nat), CIs s o P M C k n l → CIs s' o P M C k n l
  | [], _, _, _ => trivial
  | i :: r, k, n, h => ⟨CIt_gen h.1 (fun q h1 h2 => f _ _ (by omega)) (fun a b _ => ⟨fun q j hq _ _ => f _ _ (by omega), fun j _ => f _ _ (by omega)⟩) (fun q j hq => f _ _ (by omega)), CIs_off f ho r _ _ h.2⟩
theorem ZS_off {s s' : Mem} {o N : Nat} {sg : List Sg} {cv : List (Option Jvm.Term)} {xs : List (Nat × Nat × List Lo)} (f : ∀ k j, k ≠ 56 → s' k j = s k j) (h : ZS s o N sg cv xs) : ZS s' o N sg cv xs := by
  obtain ⟨z1, z2, z3, z4, z5, z6, z7, z8, z9, z10⟩ := h
  refine ⟨by rw [f _ _ (by omega), z1], z2, by rw [f _ _ (by omega), z3], z4, by rw [f _ _ (by omega), z5], z6, z7, fun j x hj => ?_, CVc_put _ _ _ (fun k j hk _ _ => f _ _ (by omega)) z9, fun i x hx => by rw [f _ _ (by omega)]; exact z10 i x hx⟩
  have := XS_put (s' := s') (N' := N) (sg2 := []) (z8 j x hj) (Nat.le_refl _) (fun q h1 h2 => f _ _ (by omega)) (fun q i hq _ _ => f _ _ (by omega)) (fun i _ => f _ _ (by omega)) (fun i => f _ _ (by omega))
  rwa [List.append_nil] at this
theorem k_compileK {d o N K : Nat} {T : Tx} {w : Int} {cp : Bool} {lv : Live} {st val bf ch : Nat → Int} {ck cn : Int} {l : List Nat} {s : Mem} (hd : 17 ≤ d) (h : RK s T w cp lv st val bf ch ck cn o N K l) :
    (∃ (s' : Mem) (w' : Int) (n : Nat), CMP T w' n none ∧ Zc d 66 [aR 56] s = rT n s' ∧ RK s' T w' cp lv st val bf ch ck cn o N K l) ∨
    (∃ (s' : Mem) (lv' : Live) (val' : Nat → Int) (N' K' : Nat) (l' : List Nat), CMP T (-2) 0 (some lv') ∧ Zc d 66 [aR 56] s = rI lv'.1.length s' ∧ RK s' T (-2) true lv' (fun _ => 0) val' (fun _ => 0) (fun _ => 0) 0 ((lv'.2.1.filter (fun x => x.1 == 0)).length : Nat) (26 - o) N' K' l' ∧ ∀ g, g < lv'.1.length → ¬ cyc (dpd lv'.1 lv'.2.1) (rgs lv'.1) g) := by
  obtain ⟨d, rfl⟩ : ∃ e, d = e + 1 := ⟨d - 1, by omega⟩
  have hRK := h
  obtain ⟨⟨ho, b2, b3, b4, b5, b6⟩, -, -, -, -, -⟩ := h
  obtain ⟨p, hpo⟩ : ∃ p, p = 26 - o := ⟨_, rfl⟩
  have hp : p = 0 ∨ p = 26 := by omega
  have hop : o = 26 - p := by omega
  rw [← hpo] at b6 ⊢
  have spare : ∀ {s' : Mem}, Fr (CPK p) s s' → s' 56 5 = ((58 + p : Nat) : Int) ∧ s' 56 4 = ((58 + o : Nat) : Int) := fun f => ⟨by rw [f _ _ (fun z => by have := z.2.2 rfl; omega), b6], by rw [f _ _ (fun z => by have := z.2.2 rfl; omega), b5]⟩
  have bad : ∀ (s' : Mem) (v : Int) (n : Nat), Fr (CPK p) s s' → CMP T v n none → Zc (d + 1) 66 [aR 56] s = rT n (mu s' 56 2 v) → ∃ (s' : Mem) (w' : Int) (n : Nat), CMP T w' n none ∧ Zc (d + 1) 66 [aR 56] s = rT n s' ∧ RK s' T w' cp lv st val bf ch ck cn o N K l := fun s' v n f hc e => ⟨_, v, n, hc, e, RK_fail hRK (by rw [← hpo]; exact f.tr (plc_K hp)) mu_s⟩
  obtain ⟨s1, u, e1, t1, F1⟩ := k_scan (d := d) (T := T) (by omega) b2 b4
  have F1 := FTK_K hp F1
  have hf := k_faultIn (d := d) (o := p) (by omega) hp t1 (fun j hj => (b4 j hj).2.1) b2
  cases hpa : pAll T with
  | error q =>
    rw [hpa] at hf
    obtain ⟨s2, e2, F2⟩ := hf
    exact Or.inl (bad s2 q 1 (F1.tr (PB_K hp F2)) (by unfold CMP; rw [hpa]; exact ⟨rfl, rfl, rfl⟩) ((cpA hp b3 e1 (spare F1).1 e2).2 (by omega)))
  | ok its =>
    rw [hpa] at hf
    obtain ⟨s2, P, M, C, e2, c1, c2, c3, c4, F2⟩ := hf
    have G2 : Fr (CPK p) s (mu s2 56 2 (-1)) := (F1.tr (PB_K hp F2)).tr (plc_K hp)
    have x2 : ∀ k j, k ≠ 56 → mu s2 56 2 (-1) k j = s2 k j := fun k j hk => mu_c hk
    have eA := (cpA hp b3 e1 (spare F1).1 e2).1 rfl
    generalize mu s2 56 2 (-1) = s3 at G2 x2 eA
    have hm := m_check (d := d) (s := s3) (by omega) hp hpa (CIs_off x2 hp _ _ _ c1) ⟨by rw [x2 _ _ (by omega)]; exact c2.1, by rw [x2 _ _ (by omega)]; exact c2.2.1, by rw [x2 _ _ (by omega)]; exact c2.2.2.1, by rw [x2 _ _ (by omega)]; exact c2.2.2.2.1, by rw [x2 _ _ (by omega)]; exact c2.2.2.2.2⟩ c3 ⟨by rw [x2 _ _ (by omega)]; exact c4.1, by rw [x2 _ _ (by omega)]; exact c4.2.1, by rw [x2 _ _ (by omega)]; exact c4.2.2⟩ rfl
    cases hck : ckA (fun _ => none) [] [] its with
    | error q =>
      rw [hck] at hm
      obtain ⟨s4, e4, F4⟩ := hm
      exact Or.inl (bad s4 q 2 (G2.tr (CKG_K hp F4)) (by unfold CMP; rw [hpa]; dsimp only; rw [hck]; exact ⟨rfl, rfl, rfl⟩) (by rw [eA]; exact (cpB hp (spare G2).1 e4).2 (by omega)))
    | ok y =>
      obtain ⟨sg, lo⟩ := y
      rw [hck] at hm
      dsimp only at hm
      obtain ⟨s4, xs, e4, m1, m2, m3, m4, m5, m6, m7, F4⟩ := hm
      have G4 : Fr (CPK p) s (mu s4 56 2 (-1)) := (G2.tr (CKG_K hp F4)).tr (plc_K hp)
      have x4 : ∀ k j, k ≠ 56 → mu s4 56 2 (-1) k j = s4 k j := fun k j hk => mu_c hk
      have p4 : mu s4 56 2 (-1) 56 2 = -1 := mu_s
      have eB := (cpB hp (spare G2).1 e4).1 rfl
      generalize mu s4 56 2 (-1) = s5 at G4 x4 eB p4
      have hX := t_txt b2 hpa hck
      have Z5 := ZS_off x4 m1
      have S5 : SGA s5 p sg := SGA_put m2 (x4 _ _ (by omega)) (fun j => ⟨x4 _ _ (by omega), x4 _ _ (by omega)⟩)
      have gw : ∀ W, GW sg (nrmL [] lo) (cvA (fun _ => none) [] (nrm [] its)) W ↔ GW sg lo (cvA (fun _ => none) [] its) W := fun W => GW_nrm (by rw [cvA_nrm])
      rcases k_resolves (d := d) (by omega) (TXT_CKS hpa hck hX rfl m7 m6) Z5 (fun i x hx => by rw [x4 _ _ (by omega)]; exact m4 i x hx) with ⟨s6, W, r1, r2, r3, r4, F6⟩ | ⟨r1, s6, r2, F6⟩
      · have G6 := G4.tr (WZ_K hp F6)
        have eC := (cpC hp (spare G4).1 r1).1 rfl
        have hG := (gw W).mp r2
        obtain ⟨s7, K', q1, q2, F7⟩ := m_lower (d := d) (by omega) hp b2 hpa hck (ZS_put Z5 F6) (SGA_put S5 (F6 _ _ (by unfold WZ; omega)) (fun j => ⟨F6 _ _ (by unfold WZ; omega), F6 _ _ (by unfold WZ; omega)⟩)) r3 r4 m6 m7
        have G7 := G6.tr (LWY_K hp F7)
        have hHI := TXT_HI hX
        rcases k_leastUnset (d := d) (by omega) hp q2.1.2.1 q2.1.1 q2.2.2.2.2.2.2.2 hHI with ⟨v1, v2⟩ | ⟨k, v1, v2, v3, v4⟩
        · have eD := (cpD hp (spare G6).1 q1 (spare G7).1 v1).1 rfl
          have G8 : Fr (CPK p) s (mu s7 56 2 (-1)) := G7.tr (plc_K hp)
          have x8 : ∀ k j, k ≠ 56 → mu s7 56 2 (-1) k j = s7 k j := fun k j hk => mu_c hk
          generalize mu s7 56 2 (-1) = s8 at G8 x8 eD
          have C8 : CIR s8 p (25 + nszs (nrm [] its)) K' sg lo W := CIR_off q2 (fun k j h1 h2 => x8 _ _ (by omega))
          obtain ⟨s9, F9, hl⟩ := k_leastInLoop (d := d) (by omega) hp C8.1 C8.2.2.2.2.2.2.2 hHI v2
          have G9 := G8.tr (LIF_K hp F9)
          rcases hl with ⟨l1, l2⟩ | ⟨k, l1, l2, l3, l4⟩
          · have eE := (cpE hp (spare G8).1 l1).1 rfl
            have G10 : Fr (CPK p) s (mu s9 56 2 (-1)) := G9.tr (plc_K hp)
            have x10 : ∀ k j, k ≠ 56 → mu s9 56 2 (-1) k j = s9 k j := fun k j hk => mu_c hk
            generalize mu s9 56 2 (-1) = s10 at G10 x10 eE
            have xs : ∀ k j, k ≠ 56 → swS s10 p o k j = s10 k j := fun k j hk => by unfold swS; rw [mu_c hk, mu_c hk, mu_c hk, mu_c hk]
            have C10 : CIR (swS s10 p o) p (25 + nszs (nrm [] its)) K' sg lo W := CIR_off C8 (fun k j h1 h2 => by rw [xs _ _ (by omega), x10 _ _ (by omega), F9 _ _ (by unfold LIF; omega)])
            have hP := SPC_W (TXT_SPC hX hG v2)
            have hcyc : ∀ g, g < (sgW sg W).length → ¬ cyc (dpd (sgW sg W) lo) (rgs (sgW sg W)) g := fun g hg => by
              rw [sgW_D, sgW_rgs]
              exact l2 g (by rw [sgW_len] at hg; exact hg)
            obtain ⟨s11, l', val', w1, w2, F11⟩ := k_start (d := d) (by omega) hp (CIR_W C10) hP hcyc
            have X11 : ∀ j, s11 56 j = swS s10 p o 56 j := fun j => F11 _ _ (by unfold RUNF; omega)
            have sw0 : ∀ j, j ≠ 2 → j ≠ 3 → j ≠ 4 → j ≠ 5 → swS s10 p o 56 j = s10 56 j := fun j h1 h2 h3 h4 => by unfold swS; rw [mu_i h4, mu_i h3, mu_i h2, mu_i h1]
            have sw1 : swS s10 p o 56 4 = ((58 + p : Nat) : Int) := by unfold swS; rw [mu_i (by decide), mu_s]
            have sw2 : swS s10 p o 56 5 = ((58 + o : Nat) : Int) := by unfold swS; rw [mu_s]
            have sw3 : swS s10 p o 56 2 = -2 := by unfold swS; rw [mu_i (by decide), mu_i (by decide), mu_i (by decide), mu_s]
            have sw4 : swS s10 p o 56 3 = 1 := by unfold swS; rw [mu_i (by decide), mu_i (by decide), mu_s]
            have hus := w2.1.1.1
            have eF := cpF (d := d) hp ho (spare G10).1 (spare G10).2 w1 (by rw [X11, sw1]) hus
            refine Or.inr ⟨s11, (sgW sg W, lo, W), val', _, _, l', ?_, ?_, ⟨⟨hp, b2, ?_, fun j hj => ?_, by rw [X11, sw1], by rw [X11, sw2, hop]⟩, by rw [X11, sw3], by rw [X11, sw4]; rfl, w2, fun i x hx => ?_, ?_⟩, hcyc⟩
            · unfold CMP
              rw [hpa]
              dsimp only
              rw [hck]
              exact Or.inr ⟨W, hG, Or.inr ⟨v2, Or.inr ⟨l2, rfl, rfl, rfl⟩⟩⟩
            · rw [eA, eB, eC, eD, eE, eF]
            · rw [X11, sw0 _ (by decide) (by decide) (by decide) (by decide), G10 _ _ (fun z => by have := z.2.2 rfl; omega), b3]
            · rw [F11 _ _ (by unfold RUNF; omega), xs _ _ (by decide), G10 _ _ (fun z => z.2.1 rfl)]
              exact b4 j hj
            · obtain ⟨z, hz, rfl⟩ := sgW_get hx
              rw [F11 _ _ (by unfold RUNF; omega), xs _ _ (by omega), x10 _ _ (by omega), F9 _ _ (by unfold LIF; omega), x8 _ _ (by omega), F7 _ _ (by unfold LWY; omega), F6 _ _ (by unfold WZ; omega), x4 _ _ (by omega)]
              exact m3 i z hz
            · rw [F11 _ _ (by unfold RUNF; omega), xs _ _ (by omega), x10 _ _ (by omega), F9 _ _ (by unfold LIF; omega), x8 _ _ (by omega), F7 _ _ (by unfold LWY; omega), F6 _ _ (by unfold WZ; omega), x4 _ _ (by omega)]
              exact m5
          · refine Or.inl (bad s9 k 5 G9 ?_ (by rw [eA, eB, eC, eD]; exact (cpE hp (spare G8).1 l1).2 (by omega)))
            unfold CMP
            rw [hpa]
            dsimp only
            rw [hck]
            exact Or.inr ⟨W, hG, Or.inr ⟨v2, Or.inl ⟨k, l2, l3, l4, rfl, rfl, rfl⟩⟩⟩
        · refine Or.inl (bad s7 k 4 G7 ?_ (by rw [eA, eB, eC]; exact (cpD hp (spare G6).1 q1 (spare G7).1 v1).2 (by omega)))
          unfold CMP
          rw [hpa]
          dsimp only
          rw [hck]
          exact Or.inr ⟨W, hG, Or.inl ⟨k, v2, v3, v4, rfl, rfl, rfl⟩⟩
      · have G6 := G4.tr (WZ_K hp F6)
        refine Or.inl ⟨s6, -1, 3, ?_, by rw [eA, eB]; exact (cpC hp (spare G4).1 r2).2 rfl, RK_fail hRK (by rw [← hpo]; exact G6) (by rw [F6 _ _ (by unfold WZ; omega), p4])⟩
        unfold CMP
        rw [hpa]
        dsimp only
        rw [hck]
        exact Or.inl ⟨fun ⟨W, hW⟩ => r1 ⟨W, (gw W).mpr hW⟩, rfl, rfl, rfl⟩
