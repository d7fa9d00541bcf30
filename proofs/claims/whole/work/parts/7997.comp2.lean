/-- what a compile that fails may write -/
def CPF (k j : Nat) : Prop := (k = 0 ∧ j ≠ 1 ∧ j < 71) ∨ (2 ≤ k ∧ k ≤ 11) ∨ (12 ≤ k ∧ k ≤ 19 ∧ j < 220) ∨ (20 ≤ k ∧ k ≤ 34) ∨ (35 ≤ k ∧ k ≤ 40 ∧ j < 24) ∨ (41 ≤ k ∧ k ≤ 43 ∧ j < 1100) ∨ (50 ≤ k ∧ k ≤ 55)
theorem PFX_CPF {k j : Nat} (h : PFX 0 0 0 0 k j) : CPF k j := by
  unfold CPF
  rcases h with (h | h | h | h | h | h | h | h) | h <;> omega
theorem CF_CPF {N k j : Nat} (hN : N ≤ 200) (h : CF 0 N k j) : CPF k j := by
  unfold CPF
  rcases h with h | h | h | h | h | h <;> omega
theorem MF_CPF {N k j : Nat} (hN : N ≤ 200) (h : MF N k j) : CPF k j := by
  unfold CPF
  unfold MF WWD WW WD FLp at h
  omega
theorem FSA_CPF {k j : Nat} (h : FSA k j) : CPF k j := by
  unfold CPF
  unfold FSA at h
  omega
theorem FDp_CPF {k j : Nat} (h : FDp k j) : CPF k j := by
  unfold CPF
  unfold FDp FK at h
  omega
theorem CPF_len : ¬ CPF 0 1 := by unfold CPF; omega
theorem CPF_txt : ∀ j, ¬ CPF 1 j := by intro j; unfold CPF; omega
/-- what is true of all that can be read and checked -/
def OKS (T : Tx) : Prop := ∀ its, pAll T = .ok its → (∀ i, i ∈ its → iOK i) ∧ isw its ≤ 1100 ∧ ∀ sg lo, ckA (fun _ => none) [] [] its = .ok (sg, lo) → IX sg lo (cvA (fun _ => none) [] its) ∧ (∀ (j : Nat) (x : Sg), sg[j]? = some x → x.2.2.1 ≤ 1 ∧ x.2.2.2.1 ≤ 16 ∧ (x.2.2.2.2 ≠ .null → x.2.2.2.1 = 0)) ∧ RUN sg lo ∧ src0 lo ∧ wfL 0 lo
abbrev Live : Type := List Sg × List Lo × (Nat → Nat)
/-! THE DOCUMENT: what compile comes to: where, the exception's number, the new circuit -/
def CMP (T : Tx) (w th : Int) (live : Option Live) : Prop :=
  match pAll T with
  | .error p => w = p ∧ th = 1 ∧ live = none
  | .ok its => match ckA (fun _ => none) [] [] its with
    | .error p => w = p ∧ th = 2 ∧ live = none
    | .ok (sg, lo) => ((¬ ∃ W, GW sg lo (cvA (fun _ => none) [] its) W) ∧ w = -1 ∧ th = 3 ∧ live = none) ∨
      ∃ W, GW sg lo (cvA (fun _ => none) [] its) W ∧
        ((∃ k : Nat, k < sg.length ∧ unset sg lo k ∧ (∀ j, j < k → ¬ unset sg lo j) ∧ w = k ∧ th = 4 ∧ live = none) ∨
         ((∀ j, j < sg.length → ¬ unset sg lo j) ∧
           ((∃ k : Nat, k < sg.length ∧ cyc (dpd sg lo) (rgs sg) k ∧ (∀ j, j < k → ¬ cyc (dpd sg lo) (rgs sg) j) ∧ w = k ∧ th = 5 ∧ live = none) ∨
            ((∀ j, j < sg.length → ¬ cyc (dpd sg lo) (rgs sg) j) ∧ w = -2 ∧ th = 0 ∧ live = some (sgW sg W, lo, W)))))
theorem sgW_rgs {sg : List Sg} {W : Nat → Nat} : rgs (sgW sg W) = rgs sg := by
  funext g
  apply propext
  unfold rgs
  constructor
  · rintro ⟨x, hx, h1⟩
    obtain ⟨y, hy, rfl⟩ := sgW_get hx
    exact ⟨y, hy, h1⟩
  · rintro ⟨x, hx, h1⟩
    refine ⟨(x.1, x.2.1, x.2.2.1, W g, x.2.2.2.2), ?_, h1⟩
    unfold sgW
    rw [List.getElem?_mapIdx, hx]
    rfl
theorem sgW_D {sg : List Sg} {lo : List Lo} {W : Nat → Nat} : dpd (sgW sg W) lo = dpd sg lo := by
  funext g h
  exact propext sgW_dpd
theorem EV_st {sg : List Sg} {lo : List Lo} {W : Nat → Nat} {st st' val : Nat → Int} (h : ∀ g, g < sg.length → st g = st' g) (e : EV sg lo W st val) : EV sg lo W st' val := by
  intro g x hx
  have hg := h g (List.getElem?_eq_some_iff.mp hx).1
  obtain ⟨e1, e2⟩ := e g x hx
  refine ⟨fun z => (e1 z).trans hg, fun z => (e2 z).trans ?_⟩
  unfold rhs
  rw [hg]
/-- the circuit that has just been made -/
def NEW (s : Mem) (sg : List Sg) (lo : List Lo) (W : Nat → Nat) : Prop :=
  LV s sg lo W ∧ s 0 74 = 0 ∧ s 0 75 = 1 ∧ s 0 73 = ((lo.filter (fun x => x.1 == 0)).length : Nat) ∧ (∀ j, j < sg.length → s 45 j = 0 ∧ s 46 j = 0 ∧ s 47 j = 0) ∧ (∀ g, g < sg.length → ¬ cyc (dpd sg lo) (rgs sg) g) ∧ ∃ val, (∀ j, j < 24 → s 44 j = val j) ∧ EV sg lo W (fun _ => 0) val ∧ ∀ h, h < sg.length → iand (val h) (msk (W h)) = val h
def CMR (s : Mem) (Z : Option Res) : Prop := ∃ (s' : Mem) (w th : Int) (live : Option Live), CMP (tx s) w th live ∧ s' 0 3 = w ∧ s' 0 4 = th ∧ tx s' = tx s ∧ okT s' ∧
  match live with
  | none => Z = rI 0 s' ∧ Fr CPF s s'
  | some (sg, lo, W) => Z = rI (sg.length : Nat) s' ∧ NEW s' sg lo W
/-- a compile that fails with where and code -/
theorem CMR_fail {s s1 : Mem} {Z : Option Res} {w th : Int} (ho : okT s) (hc : CMP (tx s) w th none) (hw : s1 0 3 = w) (F : Fr CPF s s1) (hz : Z = rI 0 (mu s1 0 4 th)) : CMR s Z := by
  have F2 : Fr CPF s (mu s1 0 4 th) := F.mu (Or.inl (by decide))
  exact ⟨_, w, th, none, hc, by rw [mu_i (by decide), hw], mu_s, F2.tx CPF_len CPF_txt, F2.okT CPF_len CPF_txt ho, hz, F2⟩
