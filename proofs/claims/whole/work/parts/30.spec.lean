/-! THE DOCUMENT, as functions: the text and its parts -/
abbrev Tx : Type := (Nat → Int) × Nat
/-- the character at j, -1 behind the end -/
def cA (T : Tx) (j : Nat) : Int := if j < T.2 then T.1 j else -1
abbrev isD (c : Int) : Prop := 48 ≤ c ∧ c ≤ 57
abbrev isN (c : Int) : Prop := 97 ≤ c ∧ c ≤ 122
def skF (T : Tx) : Nat → Nat → Nat
  | 0, j => j
  | f + 1, j => if cA T j = 32 then skF T f (j + 1) else j
/-- behind the blanks from j on -/
noncomputable def sk : Tx → Nat → Nat := sealZ (fun T j => skF T (T.2 - j) j)
theorem sk_def (T : Tx) (j : Nat) : sk T j = skF T (T.2 - j) j := by unfold sk; rw [sealZ_eq]
def nEF (T : Tx) : Nat → Nat → Nat
  | 0, j => j
  | f + 1, j => if isD (cA T j) then nEF T f (j + 1) else j
/-- behind the digits from j on -/
noncomputable def nE : Tx → Nat → Nat := sealZ (fun T j => nEF T (T.2 - j) j)
theorem nE_def (T : Tx) (j : Nat) : nE T j = nEF T (T.2 - j) j := by unfold nE; rw [sealZ_eq]
/-- what k digits from p on are worth -/
def nV (T : Tx) (p : Nat) : Nat → Int
  | 0 => 0
  | k + 1 => 10 * nV T p k + cA T (p + k) - 48
/-- read: a fault's place, or what it is and where it goes on -/
abbrev PR (α : Type) : Type := Except Nat (α × Nat)
def bd {α β : Type} (x : Except Nat (α × Nat)) (f : α → Nat → Except Nat β) : Except Nat β := match x with
  | .ok (a, p) => f a p
  | .error e => .error e
def bi {α β : Type} (x : Except Nat α) (f : α → Except Nat β) : Except Nat β := match x with
  | .ok a => f a
  | .error e => .error e
theorem bd_ok {α β : Type} {a : α} {p : Nat} {f : α → Nat → Except Nat β} : bd (.ok (a, p)) f = f a p := rfl
theorem bd_er {α β : Type} {e : Nat} {f : α → Nat → Except Nat β} : bd (.error e) f = .error e := rfl
theorem bi_ok {α β : Type} {a : α} {f : α → Except Nat β} : bi (.ok a) f = f a := rfl
theorem bi_er {α β : Type} {e : Nat} {f : α → Except Nat β} : bi (.error e) f = .error e := rfl
def okNu (T : Tx) (lo hi : Int) (p : Nat) : Prop := isD (cA T p) ∧ nE T p - p ≤ 5 ∧ nV T p (nE T p - p) ≤ 65535 ∧ lo ≤ nV T p (nE T p - p) ∧ nV T p (nE T p - p) ≤ hi
noncomputable def pNm (T : Tx) (p : Nat) : PR Nat := if isN (cA T p) then .ok ((cA T p - 97).toNat, sk T (p + 1)) else .error p
noncomputable def pNu (T : Tx) (lo hi : Int) (p : Nat) : PR Nat := @ite _ (okNu T lo hi p) (Classical.propDecidable _) (.ok ((nV T p (nE T p - p)).toNat, sk T (nE T p))) (.error p)
noncomputable def pTk (T : Tx) (c : Int) (p : Nat) : PR Unit := if cA T p = c then .ok ((), sk T (p + 1)) else .error p
noncomputable def pAr (T : Tx) (p : Nat) : PR Unit := if cA T p = 60 ∧ cA T (p + 1) = 61 then .ok ((), sk T (p + 2)) else .error p
-- trees, out of a type that is there
def tNil : Jvm.Term := .null
/-- a part of a path (a field's name, or 100 and a place) -/
def pPart (k : Nat) (r : Jvm.Term) : Jvm.Term := .elem (.arg k) r
def eRef (n : Nat) (p : Jvm.Term) : Jvm.Term := .add (.arg n) p
def eNum (v : Nat) : Jvm.Term := .arg v
def eNot (a : Jvm.Term) : Jvm.Term := .old a
def eBit (h l : Nat) (a : Jvm.Term) : Jvm.Term := .mul (.add (.arg h) (.arg l)) a
def eTwo (c : Nat) (a b : Jvm.Term) : Jvm.Term := .div (.arg c) (.rem a b)
def eMux (c a b : Jvm.Term) : Jvm.Term := .sub c (.rem a b)
def tU (w : Nat) : Jvm.Term := .arg w
def tV (n : Nat) (t : Jvm.Term) : Jvm.Term := .mul (.arg n) t
def tB (fs : Jvm.Term) : Jvm.Term := .sum fs
def fCons (n b : Nat) (t r : Jvm.Term) : Jvm.Term := .div (.sub (.arg n) (.arg b)) (.rem t r)
noncomputable def pPath (T : Tx) : Nat → Nat → PR Jvm.Term
  | 0, p => if cA T p = 46 ∨ cA T p = 91 then .error p else .ok (tNil, p)
  | k + 1, p =>
    if cA T p = 46 then
      bd (pNm T (sk T (p + 1))) fun f p1 =>
      bd (pPath T k p1) fun r p2 =>
      .ok (pPart f r, p2)
    else if cA T p = 91 then
      bd (pNu T 0 65535 (sk T (p + 1))) fun v p1 =>
      bd (pTk T 93 p1) fun _ p2 =>
      bd (pPath T k p2) fun r p3 =>
      .ok (pPart (100 + v) r, p3)
    else .ok (tNil, p)
noncomputable def pRf (T : Tx) (p : Nat) : PR Jvm.Term :=
  bd (pNm T p) fun n p1 =>
  bd (pPath T 6 p1) fun r p2 =>
  .ok (eRef n r, p2)
def isTwo (T : Tx) (p : Nat) : Prop := (cA T p = 43 ∨ cA T p = 45 ∨ cA T p = 38 ∨ cA T p = 124 ∨ cA T p = 94 ∨ cA T p = 61 ∨ cA T p = 60 ∨ cA T p = 35) ∧ ¬ (cA T p = 60 ∧ cA T (p + 1) = 61)
noncomputable def pEx (T : Tx) : Nat → Nat → PR Jvm.Term
  | 0, p => .error p
  | d + 1, p =>
    if isN (cA T p) then pRf T p
    else if isD (cA T p) then
      bd (pNu T 0 65535 p) fun v p1 =>
      .ok (eNum v, p1)
    else if cA T p = 33 then
      bd (pTk T 40 (sk T (p + 1))) fun _ p1 =>
      bd (pEx T d p1) fun a p2 =>
      bd (pTk T 41 p2) fun _ p3 =>
      .ok (eNot a, p3)
    else if cA T p = 84 then
      bd (pTk T 40 (sk T (p + 1))) fun _ p1 =>
      bd (pEx T d p1) fun a p2 =>
      bd (pTk T 44 p2) fun _ p3 =>
      bd (pNu T 0 15 p3) fun h p4 =>
      bd (pTk T 44 p4) fun _ p5 =>
      bd (pNu T 0 h p5) fun l p6 =>
      bd (pTk T 41 p6) fun _ p7 =>
      .ok (eBit h l a, p7)
    else if cA T p = 77 then
      bd (pTk T 40 (sk T (p + 1))) fun _ p1 =>
      bd (pEx T d p1) fun c p2 =>
      bd (pTk T 44 p2) fun _ p3 =>
      bd (pEx T d p3) fun a p4 =>
      bd (pTk T 44 p4) fun _ p5 =>
      bd (pEx T d p5) fun b p6 =>
      bd (pTk T 41 p6) fun _ p7 =>
      .ok (eMux c a b, p7)
    else @ite _ (isTwo T p) (Classical.propDecidable _) (
      bd (pTk T 40 (sk T (p + 1))) fun _ p1 =>
      bd (pEx T d p1) fun a p2 =>
      bd (pTk T 44 p2) fun _ p3 =>
      bd (pEx T d p3) fun b p4 =>
      bd (pTk T 41 p4) fun _ p5 =>
      .ok (eTwo (cA T p).toNat a b, p5)) (.error p)
/-- the [ ] behind a type -/
noncomputable def pVec (T : Tx) : Nat → Jvm.Term → Nat → PR Jvm.Term
  | 0, _, p => .error p
  | f + 1, t, p =>
    if cA T p = 91 then
      bd (pNu T 1 4 (sk T (p + 1))) fun n p1 =>
      bd (pTk T 93 p1) fun _ p2 =>
      pVec T f (tV n t) p2
    else .ok (t, p)
/-- the fields behind a { or a , up to behind the } -/
noncomputable def pFs (T : Tx) (F : Nat → PR Jvm.Term) : Nat → Nat → PR Jvm.Term
  | 0, p => .error p
  | f + 1, p =>
    bd (pNm T p) fun n p1 =>
    let p2 := if cA T p1 = 126 then sk T (p1 + 1) else p1
    bd (pTk T 58 p2) fun _ p3 =>
    bd (F p3) fun t p4 =>
    if cA T p4 = 44 then
      bd (pFs T F f (sk T (p4 + 1))) fun r p5 =>
      .ok (fCons n (if cA T p1 = 126 then 1 else 0) t r, p5)
    else if cA T p4 = 125 then .ok (fCons n (if cA T p1 = 126 then 1 else 0) t tNil, sk T (p4 + 1))
    else .error p4
noncomputable def pTy (T : Tx) : Nat → Nat → PR Jvm.Term
  | 0, p => .error p
  | d + 1, p =>
    if cA T p = 85 then
      if isD (cA T (sk T (p + 1))) then
        bd (pNu T 1 16 (sk T (p + 1))) fun w p2 =>
        pVec T (T.2 + 1) (tU w) p2
      else pVec T (T.2 + 1) (tU 0) (sk T (p + 1))
    else if cA T p = 123 then
      bd (pFs T (pTy T d) (T.2 + 1) (sk T (p + 1))) fun fs p2 =>
      pVec T (T.2 + 1) (tB fs) p2
    else .error p
/-- an item or a step: what (0 connect, 1 ?, 2 its second part, 3 its end, 4 declared with a type, 5 a node), its place, name, kind (0 to 4), left, right -/
abbrev It : Type := Nat × Nat × Nat × Nat × Jvm.Term × Jvm.Term
def itK (c : Int) : Nat := if c = 73 then 0 else if c = 79 then 1 else if c = 87 then 2 else if c = 82 then 3 else 4
noncomputable def pItem (T : Tx) (p : Nat) : PR It :=
  bd (pNm T (sk T (p + 1))) fun n p1 =>
  if cA T p = 78 then
    bd (pTk T 61 p1) fun _ p2 =>
    bd (pEx T 6 p2) fun e p3 =>
    bd (pTk T 59 p3) fun _ p4 =>
    .ok ((5, p, n, 4, tNil, e), p4)
  else
    bd (pTk T 58 p1) fun _ p2 =>
    bd (pTy T 3 p2) fun t p3 =>
    bd (pTk T 59 p3) fun _ p4 =>
    .ok ((4, p, n, itK (cA T p), tNil, t), p4)
noncomputable def pConn (T : Tx) (p : Nat) : PR It :=
  bd (pRf T p) fun l p1 =>
  bd (pAr T p1) fun _ p2 =>
  bd (pEx T 6 p2) fun e p3 =>
  bd (pTk T 59 p3) fun _ p4 =>
  .ok ((0, p, 0, 0, l, e), p4)
noncomputable def pIts (T : Tx) : Nat → List Nat → Nat → Except Nat (List It)
  | 0, _, p => .error p
  | f + 1, st, p =>
    if st ≠ [] ∧ cA T p = 125 then
      if st.head? = some 1 ∧ cA T (sk T (p + 1)) = 58 then
        bd (pTk T 123 (sk T (sk T (p + 1) + 1))) fun _ p2 =>
        bi (pIts T f (2 :: st.tail) p2) fun r =>
        .ok ((2, p, 0, 0, tNil, tNil) :: r)
      else
        bi (pIts T f st.tail (sk T (p + 1))) fun r =>
        .ok ((3, p, 0, 0, tNil, tNil) :: r)
    else if st = [] ∧ cA T p < 0 then .ok []
    else if cA T p = 63 ∧ st.length < 3 then
      bd (pEx T 6 (sk T (p + 1))) fun e p1 =>
      bd (pTk T 123 p1) fun _ p2 =>
      bi (pIts T f (1 :: st) p2) fun r =>
      .ok ((1, p, 0, 0, tNil, e) :: r)
    else if isN (cA T p) then
      bd (pConn T p) fun i p1 =>
      bi (pIts T f st p1) fun r =>
      .ok (i :: r)
    else if st = [] ∧ (cA T p = 73 ∨ cA T p = 79 ∨ cA T p = 87 ∨ cA T p = 82 ∨ cA T p = 78) then
      bd (pItem T p) fun i p1 =>
      bi (pIts T f st p1) fun r =>
      .ok (i :: r)
    else .error p
noncomputable def pAll (T : Tx) : Except Nat (List It) := pIts T (T.2 + 1) [] (sk T 0)
