/-! without loops the values are one and the same -/
theorem EV_uniq {sg : List Sg} {lo : List Lo} {W : Nat → Nat} {st val val' : Nat → Int} (hL : sg.length ≤ 24) (hD : ∀ g h, dpd sg lo g h → h < sg.length) (hc : ∀ g, g < sg.length → ¬ cyc (dpd sg lo) (rgs sg) g) (e1 : EV sg lo W st val) (e2 : EV sg lo W st val') : ∀ g, g < sg.length → val g = val' g := by
  refine acyc (D := dpd sg lo) (rg := rgs sg) (K := fun g => val g = val' g) hL (fun g h hh => ⟨(List.getElem?_eq_some_iff.mp hh.choose_spec.1).1, hD g h hh⟩) hc (fun g hg hk hr => ?_) (fun g hg hk => ?_)
  · obtain ⟨x, hx, h3⟩ := hr
    exact hk (((e1 g x hx).1 (Or.inl h3)).trans ((e2 g x hx).1 (Or.inl h3)).symm)
  · refine Classical.byContradiction fun hno => hk ?_
    have hall : ∀ h, dpd sg lo g h → val h = val' h := fun h hh => Classical.byContradiction fun z => hno ⟨h, hh, z⟩
    have hx := List.getElem?_eq_getElem hg
    generalize sg[g] = x at hx
    by_cases hb : bas x
    · exact ((e1 g x hx).1 hb).trans ((e2 g x hx).1 hb).symm
    · have hs : isSk x.1 x.2.2.1 ∨ x.1 = 4 := Classical.byContradiction fun z => hb (Or.inr ⟨fun y => z (Or.inr y), fun y => z (Or.inl y)⟩)
      rw [(e1 g x hx).2 hb, (e2 g x hx).2 hb]
      have h3 : ¬ x.1 = 3 := fun z => hb (Or.inl z)
      unfold rhs
      by_cases h4 : x.1 = 4
      · rw [if_pos h4, if_pos h4]
        have hf : form sg lo g = x.2.2.2.2 := by
          unfold form
          rw [hx]
          dsimp only
          rw [if_pos h4]
        exact vE_eq (fun q hq => hall q ⟨x, hx, hs, by rw [hf]; exact hq⟩)
      · rw [if_neg h4, if_neg h4]
        have hf : form sg lo g = lwF g lo .null [] := by
          unfold form
          rw [hx]
          dsimp only
          rw [if_neg h4, if_neg h3]
        rw [vF_eq (fun q hq => hall q ⟨x, hx, hs, by rw [hf]; exact hq⟩)]
/-- two widths of one circuit are the same -/
theorem GW_uniq {sg : List Sg} {lo : List Lo} {cv : List (Option Jvm.Term)} {W W' : Nat → Nat} (h : GW sg lo cv W) (h' : GW sg lo cv W') : W = W' := by
  funext i
  by_cases hi : i < sg.length
  · exact Nat.le_antisymm (h.2.2.1 W' h'.1 h'.2.1 i hi) (h'.2.2.1 W h.1 h.2.1 i hi)
  · rw [h.2.2.2.2.2 i (by omega), h'.2.2.2.2.2 i (by omega)]
