/-- a node's width is that of its expression -/
theorem GW_node {sg : List Sg} {lo : List Lo} {cv : List (Option Jvm.Term)} {W : Nat → Nat} (hIX : IX sg lo cv) (h : GW sg lo cv W) {g : Nat} {x : Sg} (hx : sg[g]? = some x) (hn : x.2.2.2.2 ≠ .null) (h0 : x.2.2.2.1 = 0) : wE W x.2.2.2.2 = W g := by
  obtain ⟨h1, h2, h3, h4, h5, h6⟩ := h
  have hg := (List.getElem?_eq_some_iff.mp hx).1
  have hle := h2.1 g x hx hn
  refine Nat.le_antisymm hle ?_
  have hV : ∀ i, wUp W g (wE W x.2.2.2.2) i ≤ W i := fun i => by
    unfold wUp
    by_cases hi : i = g
    · rw [if_pos hi, hi]; exact hle
    · rw [if_neg hi]; exact Nat.le_refl _
  have hne : ∀ i, i ≠ g → wUp W g (wE W x.2.2.2.2) i = W i := fun i hi => if_neg hi
  have hgg : wUp W g (wE W x.2.2.2.2) g = wE W x.2.2.2.2 := if_pos rfl
  have := h3 (wUp W g (wE W x.2.2.2.2)) (fun i y hy => by
    by_cases hi : i = g
    · rw [hi] at hy
      rw [hx] at hy
      cases hy
      rw [h0]
      exact Nat.zero_le _
    · rw [hne i hi]
      exact h1 i y hy) ⟨fun i y hy hyn => by
        have hm := wE_mono (L := sg.length) (fun j _ => hV j) (hIX.1 i y hy)
        by_cases hi : i = g
        · rw [hi] at hy ⊢
          rw [hx] at hy
          cases hy
          rw [hgg]
          exact wE_mono (L := sg.length) (fun j _ => hV j) (hIX.1 g x hx)
        · rw [hne i hi]
          exact Nat.le_trans hm (h2.1 i y hy hyn), fun k y hy hy0 hf => by
        have hng : y.2.1 ≠ g := fun z => by
          obtain ⟨w, hw, -, hw2⟩ := hf
          rw [z, hx] at hw
          cases hw
          exact hn hw2
        rw [hne _ hng]
        exact Nat.le_trans (wE_mono (L := sg.length) (fun j _ => hV j) (hIX.2.1 k y hy).1) (h2.2 k y hy hy0 hf)⟩ g hg
  rw [hgg] at this
  exact this
/-- what the check leaves is fit to run -/
def RUN (sg : List Sg) (lo : List Lo) : Prop := wfB [] lo ∧ srcV lo ∧ (∀ g h, dpd sg lo g h → h < sg.length) ∧ (∀ (g : Nat) (x : Sg), sg[g]? = some x → (x.1 = 4 ↔ x.2.2.2.2 ≠ .null) ∧ (x.1 = 4 → x.2.2.2.1 = 0))
theorem sgW_dpd {sg : List Sg} {lo : List Lo} {W : Nat → Nat} {g h : Nat} : dpd (sgW sg W) lo g h ↔ dpd sg lo g h := by
  have hf : form (sgW sg W) lo g = form sg lo g := by
    unfold form sgW
    rw [List.getElem?_mapIdx]
    cases sg[g]? with
    | none => rfl
    | some x => rfl
  unfold dpd
  rw [hf]
  constructor
  · rintro ⟨x, hx, h1, h2⟩
    obtain ⟨y, hy, rfl⟩ := sgW_get hx
    exact ⟨y, hy, h1, h2⟩
  · rintro ⟨x, hx, h1, h2⟩
    refine ⟨(x.1, x.2.1, x.2.2.1, W g, x.2.2.2.2), ?_, h1, h2⟩
    unfold sgW
    rw [List.getElem?_mapIdx, hx]
    rfl
theorem LV_hold {N : Nat} {sg : List Sg} {lo : List Lo} {cv : List (Option Jvm.Term)} {W : Nat → Nat} {s s' : Mem} (hN : N ≤ 200) (hIX : IX sg lo cv) (hG : GW sg lo cv W) (hR : RUN sg lo) (hC : CKE s N cv (sgW sg W) lo) (hW : WEs s W 0 cv) (hD : ∀ g, g < sg.length → BT (s 40 g) (dpd sg lo g))
    (f1 : ∀ k j, 12 ≤ k ∧ k ≤ 19 → j < N → s' k (220 + j) = s k j) (f2 : ∀ k j, (k = 35 ∨ k = 36 ∨ k = 38 ∨ k = 39 ∨ k = 40) → j < sg.length → s' k (24 + j) = s k j) (f3 : ∀ (j : Nat) (x : Sg), sg[j]? = some x → (isSk x.1 x.2.2.1 → s' 37 (24 + j) = 1) ∧ (¬ isSk x.1 x.2.2.1 → s' 37 (24 + j) = 0)) (f5 : ∀ k j, 41 ≤ k ∧ k ≤ 43 → j < lo.length → s' k (1100 + j) = s k j) (f6 : s' 0 71 = sg.length ∧ s' 0 72 = lo.length) : LV s' (sgW sg W) lo W := by
  obtain ⟨c1, c2, c3, c4, c5, c6, c7, c8⟩ := hC
  obtain ⟨r1, r2, r3, r4⟩ := hR
  have htw : ¬ twA W cv := hG.2.2.2.1
  rw [sgW_len] at c1 c2
  have shr : ∀ k j, 12 ≤ k ∧ k ≤ 19 → j < N → sh s' k j = s k j := fun k j hk hj => by rw [sh_n hk, f1 k j hk hj]
  have RR' : ∀ {e : Jvm.Term} {n : Nat}, RR s e n → n + esz e ≤ N → RR (sh s') e n := fun r hn => RR_put r (fun k j hk h1 h2 => shr k j (by omega) (by omega))
  have WE' : ∀ {e : Jvm.Term} {n : Nat}, RR s e n → n + esz e ≤ N → WE (sh s') W e n := fun {e n} r hn => by
    have hp := esz_pos e
    exact WE_put (WE_at c8 hW htw r (by omega)).1 (fun j h1 h2 => shr _ j (by decide) (by omega))
  unfold LV
  rw [sgW_len]
  refine ⟨f6.1, c2, f6.2, c5, fun j x hx => ?_, r1, r2, fun g h hd => r3 g h (sgW_dpd.mp hd), fun g x hx => ?_⟩
  · have hj := (List.getElem?_eq_some_iff.mp hx).1
    obtain ⟨z1, z2, z3⟩ := c6 j x hx
    refine ⟨by rw [f5 _ _ (by decide) hj, z1], fun z => ?_, fun z => ?_⟩
    · rw [f5 _ _ (by decide) hj, f5 _ _ (by decide) hj]
      obtain ⟨y1, y2, y3⟩ := z2 z
      refine ⟨y1, ?_⟩
      rcases y3 with ⟨g, w1, w2, w3⟩ | ⟨n, w1, w2, w3⟩
      · refine Or.inl ⟨g, w1, ?_, w3⟩
        have := (hIX.2.1 j x hx).1
        rw [w1] at this
        exact this
      · exact Or.inr ⟨n, w1, RR' w2 w3, WE' w2 w3, by omega⟩
    · rw [f5 _ _ (by decide) hj]
      obtain ⟨n, w1, w2, w3⟩ := z3 z
      exact ⟨n, w1, RR' w2 w3, WE' w2 w3, by omega⟩
  · obtain ⟨y, hy, rfl⟩ := sgW_get hx
    have hg := (List.getElem?_eq_some_iff.mp hy).1
    obtain ⟨z1, z2, z3, z4, z5⟩ := c3 g _ hx
    dsimp only at z1 z2 z3 z4 z5 ⊢
    refine ⟨by rw [f2 _ _ (by decide) hg, z1], by rw [f2 _ _ (by decide) hg, z2], (f3 g y hy).1, (f3 g y hy).2, by rw [f2 _ _ (by decide) hg, z4], ?_, fun h4 => ?_⟩
    · rw [f2 _ _ (by decide) hg]
      exact BT_iff (hD g hg) (fun h _ => sgW_dpd.symm)
    · have hnn := (r4 g y hy).1.mp h4
      rcases z5 with ⟨z, -⟩ | ⟨n, w1, w2, w3⟩
      · exact absurd z hnn
      · exact ⟨n, by rw [f2 _ _ (by decide) hg, w1], RR' w2 w3, WE' w2 w3, by omega, GW_node hIX hG hy hnn ((r4 g y hy).2 h4)⟩
