variable {d r q : Nat} {l0 l1 l2 l3 l4 l5 l6 l7 l8 l9 l10 l11 l12 l13 l14 l15 : AV} {st : List AV} {s : Mem} {a b z i n dp sp a0 a1 a2 a3 a4 a5 a6 : Int} {r0 r1 r2 r3 r4 : Nat}
theorem x101_0 : Ze d 101 0 [aR r, l1, l2, l3, l4, l5] st s = Ze d 101 1 [aR r, l1, l2, l3, l4, l5] (aR r :: st) s := Ze_n (i := (.aload_n 0)) (len := 1) (by decide +kernel) rfl
theorem x101_1 (h : obC r = 4) : Ze d 101 1 [l0, l1, l2, l3, l4, l5] (aR r :: st) s = Ze d 101 4 [l0, l1, l2, l3, l4, l5] (aR (fcn r 1) :: st) s := Ze_gf (len := 3) (idx := 15) (by decide +kernel) rfl h rfl
theorem x101_4 (h : obC r = 10) : Ze d 101 4 [l0, l1, l2, l3, l4, l5] (aR r :: st) s = Ze d 101 7 [l0, l1, l2, l3, l4, l5] (aR (fcn r 2) :: st) s := Ze_gf (len := 3) (idx := 36) (by decide +kernel) rfl h rfl
theorem x101_7 : Ze d 101 7 [l0, l1, aI z, l3, l4, l5] st s = Ze d 101 8 [l0, l1, aI z, l3, l4, l5] (aI z :: st) s := Ze_n (i := (.iload_n 2)) (len := 1) (by decide +kernel) rfl
theorem x101_8 (h0 : 0 ≤ i) (h1 : i < aN1 r) : Ze d 101 8 [l0, l1, l2, l3, l4, l5] (aI i :: aR r :: st) s = Ze d 101 9 [l0, l1, l2, l3, l4, l5] (aI (s r i.toNat) :: st) s := Ze_n (i := .iaload) (len := 1) (by decide +kernel) (if_pos ⟨h0, h1⟩)
theorem x101_9 : Ze d 101 9 [l0, l1, l2, l3, l4, l5] (aI z :: st) s = Ze d 101 11 [l0, l1, l2, l3, aI z, l5] st s := Ze_n (i := (.istore 4)) (len := 2) (by decide +kernel) rfl
theorem x101_11 : Ze d 101 11 [l0, aR r, l2, l3, l4, l5] st s = Ze d 101 12 [l0, aR r, l2, l3, l4, l5] (aR r :: st) s := Ze_n (i := (.aload_n 1)) (len := 1) (by decide +kernel) rfl
theorem x101_12 (h : obC r = 3) : Ze d 101 12 [l0, l1, l2, l3, l4, l5] (aR r :: st) s = Ze d 101 15 [l0, l1, l2, l3, l4, l5] (aR (fcn r 1) :: st) s := Ze_gf (len := 3) (idx := 25) (by decide +kernel) rfl h rfl
theorem x101_15 (h : obC r = 6) : Ze d 101 15 [l0, l1, l2, l3, l4, l5] (aR r :: st) s = Ze d 101 18 [l0, l1, l2, l3, l4, l5] (aR (fcn r 3) :: st) s := Ze_gf (len := 3) (idx := 52) (by decide +kernel) rfl h rfl
theorem x101_18 : Ze d 101 18 [l0, l1, l2, l3, aI z, l5] st s = Ze d 101 20 [l0, l1, l2, l3, aI z, l5] (aI z :: st) s := Ze_n (i := (.iload 4)) (len := 2) (by decide +kernel) rfl
theorem x101_20 (h0 : 0 ≤ i) (h1 : i < aN1 r) : Ze d 101 20 [l0, l1, l2, l3, l4, l5] (aI i :: aR r :: st) s = Ze d 101 21 [l0, l1, l2, l3, l4, l5] (aI (s r i.toNat) :: st) s := Ze_n (i := .iaload) (len := 1) (by decide +kernel) (if_pos ⟨h0, h1⟩)
theorem x101_21 : Ze d 101 21 [l0, l1, l2, l3, l4, l5] st s = Ze d 101 22 [l0, l1, l2, l3, l4, l5] (aI 1 :: st) s := Ze_n (i := (.iconst 1)) (len := 1) (by decide +kernel) rfl
theorem x101_22 : Ze d 101 22 [l0, l1, l2, l3, l4, l5] (aI b :: aI a :: st) s = if a = b then Ze d 101 25 [l0, l1, l2, l3, l4, l5] st s else Ze d 101 29 [l0, l1, l2, l3, l4, l5] st s := Ze_b (i := (.if_icmp .ne 7)) (len := 3) (by decide +kernel) rfl
theorem x101_25 : Ze d 101 25 [l0, l1, l2, l3, l4, l5] st s = Ze d 101 26 [l0, l1, l2, l3, l4, l5] (aI 1 :: st) s := Ze_n (i := (.iconst 1)) (len := 1) (by decide +kernel) rfl
theorem x101_26 : Ze d 101 26 [l0, l1, l2, l3, l4, l5] st s = Ze d 101 30 [l0, l1, l2, l3, l4, l5] st s := Ze_n (i := (.goto 4)) (len := 3) (by decide +kernel) rfl
theorem x101_29 : Ze d 101 29 [l0, l1, l2, l3, l4, l5] st s = Ze d 101 30 [l0, l1, l2, l3, l4, l5] (aI 0 :: st) s := Ze_n (i := (.iconst 0)) (len := 1) (by decide +kernel) rfl
theorem x101_30 : Ze d 101 30 [l0, l1, l2, l3, l4, l5] (aI z :: st) s = Ze d 101 32 [l0, l1, l2, l3, l4, aI z] st s := Ze_n (i := (.istore 5)) (len := 2) (by decide +kernel) rfl
theorem x101_32 : Ze d 101 32 [l0, aR r, l2, l3, l4, l5] st s = Ze d 101 33 [l0, aR r, l2, l3, l4, l5] (aR r :: st) s := Ze_n (i := (.aload_n 1)) (len := 1) (by decide +kernel) rfl
theorem x101_33 (h : obC r = 3) : Ze d 101 33 [l0, l1, l2, l3, l4, l5] (aR r :: st) s = Ze d 101 36 [l0, l1, l2, l3, l4, l5] (aR (fcn r 0) :: st) s := Ze_gf (len := 3) (idx := 53) (by decide +kernel) rfl h rfl
theorem x101_36 (h : obC r = 8) : Ze d 101 36 [l0, l1, l2, l3, l4, l5] (aR r :: st) s = Ze d 101 39 [l0, l1, l2, l3, l4, l5] (aR (fcn r 3) :: st) s := Ze_gf (len := 3) (idx := 57) (by decide +kernel) rfl h rfl
theorem x101_39 : Ze d 101 39 [l0, aR r, l2, l3, l4, l5] st s = Ze d 101 40 [l0, aR r, l2, l3, l4, l5] (aR r :: st) s := Ze_n (i := (.aload_n 1)) (len := 1) (by decide +kernel) rfl
theorem x101_40 (h : obC r = 3) : Ze d 101 40 [l0, l1, l2, l3, l4, l5] (aR r :: st) s = Ze d 101 43 [l0, l1, l2, l3, l4, l5] (aR (fcn r 1) :: st) s := Ze_gf (len := 3) (idx := 25) (by decide +kernel) rfl h rfl
theorem x101_43 (h : obC r = 6) : Ze d 101 43 [l0, l1, l2, l3, l4, l5] (aR r :: st) s = Ze d 101 46 [l0, l1, l2, l3, l4, l5] (aR (fcn r 1) :: st) s := Ze_gf (len := 3) (idx := 48) (by decide +kernel) rfl h rfl
theorem x101_46 : Ze d 101 46 [l0, l1, l2, l3, aI z, l5] st s = Ze d 101 48 [l0, l1, l2, l3, aI z, l5] (aI z :: st) s := Ze_n (i := (.iload 4)) (len := 2) (by decide +kernel) rfl
theorem x101_48 (h0 : 0 ≤ i) (h1 : i < aN1 r) : Ze d 101 48 [l0, l1, l2, l3, l4, l5] (aI i :: aR r :: st) s = Ze d 101 49 [l0, l1, l2, l3, l4, l5] (aI (s r i.toNat) :: st) s := Ze_n (i := .iaload) (len := 1) (by decide +kernel) (if_pos ⟨h0, h1⟩)
theorem x101_49 : Ze d 101 49 [l0, l1, l2, aI z, l4, l5] st s = Ze d 101 50 [l0, l1, l2, aI z, l4, l5] (aI z :: st) s := Ze_n (i := (.iload_n 3)) (len := 1) (by decide +kernel) rfl
theorem x101_50 : Ze d 101 50 [l0, l1, l2, l3, l4, l5] (aI b :: aI a :: st) s = Ze d 101 51 [l0, l1, l2, l3, l4, l5] (aI (wrap (a + b)) :: st) s := Ze_n (i := .iadd) (len := 1) (by decide +kernel) rfl
theorem x101_51 (h0 : 0 ≤ i) (h1 : i < aN2 r) : Ze d 101 51 [l0, l1, l2, l3, l4, l5] (aI i :: aR r :: st) s = Ze d 101 52 [l0, l1, l2, l3, l4, l5] (aI (s r i.toNat) :: st) s := Ze_n (i := .baload) (len := 1) (by decide +kernel) (if_pos ⟨h0, h1⟩)
theorem x101_52 : Ze d 101 52 [l0, l1, l2, l3, l4, aI z] st s = Ze d 101 54 [l0, l1, l2, l3, l4, aI z] (aI z :: st) s := Ze_n (i := (.iload 5)) (len := 2) (by decide +kernel) rfl
theorem x101_54 : Ze d 101 54 [l0, l1, l2, l3, l4, l5] (aI b :: aI a :: st) s = if a = b then Ze d 101 61 [l0, l1, l2, l3, l4, l5] st s else Ze d 101 57 [l0, l1, l2, l3, l4, l5] st s := Ze_b (i := (.if_icmp .eq 7)) (len := 3) (by decide +kernel) rfl
theorem x101_57 : Ze d 101 57 [l0, l1, l2, l3, l4, l5] st s = Ze d 101 58 [l0, l1, l2, l3, l4, l5] (aI 1 :: st) s := Ze_n (i := (.iconst 1)) (len := 1) (by decide +kernel) rfl
theorem x101_58 : Ze d 101 58 [l0, l1, l2, l3, l4, l5] st s = Ze d 101 62 [l0, l1, l2, l3, l4, l5] st s := Ze_n (i := (.goto 4)) (len := 3) (by decide +kernel) rfl
theorem x101_61 : Ze d 101 61 [l0, l1, l2, l3, l4, l5] st s = Ze d 101 62 [l0, l1, l2, l3, l4, l5] (aI 0 :: st) s := Ze_n (i := (.iconst 0)) (len := 1) (by decide +kernel) rfl
theorem x101_62 (h : z = 0 ∨ z = 1) : Ze d 101 62 [l0, l1, l2, l3, l4, l5] [aI z] s = rI z s := Ze_i2 (by decide +kernel) rfl h
theorem en101 : Zc (d + 1) 101 [aR r, aR r1, aI a2, aI a3] s = Ze d 101 0 [aR r, aR r1, aI a2, aI a3, aU, aU] [] s := rfl
theorem x99_0 : Ze d 99 0 [aR r, l1, l2, l3, l4] st s = Ze d 99 1 [aR r, l1, l2, l3, l4] (aR r :: st) s := Ze_n (i := (.aload_n 0)) (len := 1) (by decide +kernel) rfl
theorem x99_1 : Ze d 99 1 [l0, aR r, l2, l3, l4] st s = Ze d 99 2 [l0, aR r, l2, l3, l4] (aR r :: st) s := Ze_n (i := (.aload_n 1)) (len := 1) (by decide +kernel) rfl
theorem x99_2 : Ze d 99 2 [l0, l1, aI z, l3, l4] st s = Ze d 99 3 [l0, l1, aI z, l3, l4] (aI z :: st) s := Ze_n (i := (.iload_n 2)) (len := 1) (by decide +kernel) rfl
theorem x99_3 : Ze d 99 3 [l0, l1, l2, aI z, l4] st s = Ze d 99 4 [l0, l1, l2, aI z, l4] (aI z :: st) s := Ze_n (i := (.iload_n 3)) (len := 1) (by decide +kernel) rfl
theorem x99_4 (h : obC r = 4) (h6 : st.length ≤ 4) : Ze d 99 4 [l0, l1, l2, l3, l4] (aI a3 :: aI a2 :: aR r1 :: aR r :: st) s = zcI (Zc d 101 [aR r, aR r1, aI a2, aI a3] s) d 99 7 [l0, l1, l2, l3, l4] st := Ze_cvI (idx := 41) (len := 3) (as := [aR r1, aI a2, aI a3]) (by decide +kernel) rfl (by decide +kernel) rfl h h6
theorem x99_7 : Ze d 99 7 [l0, l1, l2, l3, l4] (aI a :: st) s = if a = 0 then Ze d 99 22 [l0, l1, l2, l3, l4] st s else Ze d 99 10 [l0, l1, l2, l3, l4] st s := Ze_b (i := (.ifCond .eq 15)) (len := 3) (by decide +kernel) rfl
theorem x99_10 : Ze d 99 10 [aR r, l1, l2, l3, l4] st s = Ze d 99 11 [aR r, l1, l2, l3, l4] (aR r :: st) s := Ze_n (i := (.aload_n 0)) (len := 1) (by decide +kernel) rfl
theorem x99_11 (h : obC r = 4) : Ze d 99 11 [l0, l1, l2, l3, l4] (aR r :: st) s = Ze d 99 14 [l0, l1, l2, l3, l4] (aR (fcn r 1) :: st) s := Ze_gf (len := 3) (idx := 15) (by decide +kernel) rfl h rfl
theorem x99_14 (h : obC r = 10) : Ze d 99 14 [l0, l1, l2, l3, l4] (aR r :: st) s = Ze d 99 17 [l0, l1, l2, l3, l4] (aR (fcn r 3) :: st) s := Ze_gf (len := 3) (idx := 45) (by decide +kernel) rfl h rfl
theorem x99_17 : Ze d 99 17 [l0, l1, aI z, l3, l4] st s = Ze d 99 18 [l0, l1, aI z, l3, l4] (aI z :: st) s := Ze_n (i := (.iload_n 2)) (len := 1) (by decide +kernel) rfl
theorem x99_18 (h0 : 0 ≤ i) (h1 : i < aN1 r) : Ze d 99 18 [l0, l1, l2, l3, l4] (aI i :: aR r :: st) s = Ze d 99 19 [l0, l1, l2, l3, l4] (aI (s r i.toNat) :: st) s := Ze_n (i := .iaload) (len := 1) (by decide +kernel) (if_pos ⟨h0, h1⟩)
theorem x99_19 : Ze d 99 19 [l0, l1, l2, l3, l4] st s = Ze d 99 31 [l0, l1, l2, l3, l4] st s := Ze_n (i := (.goto 12)) (len := 3) (by decide +kernel) rfl
theorem x99_22 : Ze d 99 22 [aR r, l1, l2, l3, l4] st s = Ze d 99 23 [aR r, l1, l2, l3, l4] (aR r :: st) s := Ze_n (i := (.aload_n 0)) (len := 1) (by decide +kernel) rfl
theorem x99_23 (h : obC r = 4) : Ze d 99 23 [l0, l1, l2, l3, l4] (aR r :: st) s = Ze d 99 26 [l0, l1, l2, l3, l4] (aR (fcn r 1) :: st) s := Ze_gf (len := 3) (idx := 15) (by decide +kernel) rfl h rfl
theorem x99_26 (h : obC r = 10) : Ze d 99 26 [l0, l1, l2, l3, l4] (aR r :: st) s = Ze d 99 29 [l0, l1, l2, l3, l4] (aR (fcn r 2) :: st) s := Ze_gf (len := 3) (idx := 36) (by decide +kernel) rfl h rfl
theorem x99_29 : Ze d 99 29 [l0, l1, aI z, l3, l4] st s = Ze d 99 30 [l0, l1, aI z, l3, l4] (aI z :: st) s := Ze_n (i := (.iload_n 2)) (len := 1) (by decide +kernel) rfl
theorem x99_30 (h0 : 0 ≤ i) (h1 : i < aN1 r) : Ze d 99 30 [l0, l1, l2, l3, l4] (aI i :: aR r :: st) s = Ze d 99 31 [l0, l1, l2, l3, l4] (aI (s r i.toNat) :: st) s := Ze_n (i := .iaload) (len := 1) (by decide +kernel) (if_pos ⟨h0, h1⟩)
theorem x99_31 : Ze d 99 31 [l0, l1, l2, l3, l4] (aI z :: st) s = Ze d 99 33 [l0, l1, l2, l3, aI z] st s := Ze_n (i := (.istore 4)) (len := 2) (by decide +kernel) rfl
theorem x99_33 : Ze d 99 33 [l0, aR r, l2, l3, l4] st s = Ze d 99 34 [l0, aR r, l2, l3, l4] (aR r :: st) s := Ze_n (i := (.aload_n 1)) (len := 1) (by decide +kernel) rfl
theorem x99_34 (h : obC r = 3) : Ze d 99 34 [l0, l1, l2, l3, l4] (aR r :: st) s = Ze d 99 37 [l0, l1, l2, l3, l4] (aR (fcn r 1) :: st) s := Ze_gf (len := 3) (idx := 25) (by decide +kernel) rfl h rfl
theorem x99_37 (h : obC r = 6) : Ze d 99 37 [l0, l1, l2, l3, l4] (aR r :: st) s = Ze d 99 40 [l0, l1, l2, l3, l4] (aR (fcn r 1) :: st) s := Ze_gf (len := 3) (idx := 48) (by decide +kernel) rfl h rfl
theorem x99_40 : Ze d 99 40 [l0, l1, l2, l3, aI z] st s = Ze d 99 42 [l0, l1, l2, l3, aI z] (aI z :: st) s := Ze_n (i := (.iload 4)) (len := 2) (by decide +kernel) rfl
theorem x99_42 (h0 : 0 ≤ i) (h1 : i < aN1 r) : Ze d 99 42 [l0, l1, l2, l3, l4] (aI i :: aR r :: st) s = Ze d 99 43 [l0, l1, l2, l3, l4] (aI (s r i.toNat) :: st) s := Ze_n (i := .iaload) (len := 1) (by decide +kernel) (if_pos ⟨h0, h1⟩)
theorem x99_43 : Ze d 99 43 [l0, l1, l2, aI z, l4] st s = Ze d 99 44 [l0, l1, l2, aI z, l4] (aI z :: st) s := Ze_n (i := (.iload_n 3)) (len := 1) (by decide +kernel) rfl
theorem x99_44 : Ze d 99 44 [l0, l1, l2, l3, l4] (aI b :: aI a :: st) s = Ze d 99 45 [l0, l1, l2, l3, l4] (aI (wrap (a + b)) :: st) s := Ze_n (i := .iadd) (len := 1) (by decide +kernel) rfl
theorem x99_45 : Ze d 99 45 [l0, l1, l2, l3, l4] [aI z] s = rI z s := Ze_i1 (by decide +kernel) rfl
theorem en99 : Zc (d + 1) 99 [aR r, aR r1, aI a2, aI a3] s = Ze d 99 0 [aR r, aR r1, aI a2, aI a3, aU] [] s := rfl
theorem x100_0 : Ze d 100 0 [l0, aR r, l2, l3, l4] st s = Ze d 100 1 [l0, aR r, l2, l3, l4] (aR r :: st) s := Ze_n (i := (.aload_n 1)) (len := 1) (by decide +kernel) rfl
theorem x100_1 (h : obC r = 3) : Ze d 100 1 [l0, l1, l2, l3, l4] (aR r :: st) s = Ze d 100 4 [l0, l1, l2, l3, l4] (aR (fcn r 1) :: st) s := Ze_gf (len := 3) (idx := 25) (by decide +kernel) rfl h rfl
theorem x100_4 (h : obC r = 6) : Ze d 100 4 [l0, l1, l2, l3, l4] (aR r :: st) s = Ze d 100 7 [l0, l1, l2, l3, l4] (aR (fcn r 0) :: st) s := Ze_gf (len := 3) (idx := 49) (by decide +kernel) rfl h rfl
theorem x100_7 : Ze d 100 7 [aR r, l1, l2, l3, l4] st s = Ze d 100 8 [aR r, l1, l2, l3, l4] (aR r :: st) s := Ze_n (i := (.aload_n 0)) (len := 1) (by decide +kernel) rfl
theorem x100_8 (h : obC r = 4) : Ze d 100 8 [l0, l1, l2, l3, l4] (aR r :: st) s = Ze d 100 11 [l0, l1, l2, l3, l4] (aR (fcn r 1) :: st) s := Ze_gf (len := 3) (idx := 15) (by decide +kernel) rfl h rfl
theorem x100_11 (h : obC r = 10) : Ze d 100 11 [l0, l1, l2, l3, l4] (aR r :: st) s = Ze d 100 14 [l0, l1, l2, l3, l4] (aR (fcn r 3) :: st) s := Ze_gf (len := 3) (idx := 45) (by decide +kernel) rfl h rfl
theorem x100_14 : Ze d 100 14 [l0, l1, aI z, l3, l4] st s = Ze d 100 15 [l0, l1, aI z, l3, l4] (aI z :: st) s := Ze_n (i := (.iload_n 2)) (len := 1) (by decide +kernel) rfl
theorem x100_15 (h0 : 0 ≤ i) (h1 : i < aN1 r) : Ze d 100 15 [l0, l1, l2, l3, l4] (aI i :: aR r :: st) s = Ze d 100 16 [l0, l1, l2, l3, l4] (aI (s r i.toNat) :: st) s := Ze_n (i := .iaload) (len := 1) (by decide +kernel) (if_pos ⟨h0, h1⟩)
theorem x100_16 (h0 : 0 ≤ i) (h1 : i < aN1 r) : Ze d 100 16 [l0, l1, l2, l3, l4] (aI i :: aR r :: st) s = Ze d 100 17 [l0, l1, l2, l3, l4] (aI (s r i.toNat) :: st) s := Ze_n (i := .iaload) (len := 1) (by decide +kernel) (if_pos ⟨h0, h1⟩)
theorem x100_17 : Ze d 100 17 [l0, l1, l2, l3, l4] st s = Ze d 100 18 [l0, l1, l2, l3, l4] (aI 5 :: st) s := Ze_n (i := (.iconst 5)) (len := 1) (by decide +kernel) rfl
theorem x100_18 : Ze d 100 18 [l0, l1, l2, l3, l4] (aI b :: aI a :: st) s = if a = b then Ze d 100 31 [l0, l1, l2, l3, l4] st s else Ze d 100 21 [l0, l1, l2, l3, l4] st s := Ze_b (i := (.if_icmp .eq 13)) (len := 3) (by decide +kernel) rfl
theorem x100_21 : Ze d 100 21 [aR r, l1, l2, l3, l4] st s = Ze d 100 22 [aR r, l1, l2, l3, l4] (aR r :: st) s := Ze_n (i := (.aload_n 0)) (len := 1) (by decide +kernel) rfl
theorem x100_22 (h : obC r = 4) : Ze d 100 22 [l0, l1, l2, l3, l4] (aR r :: st) s = Ze d 100 25 [l0, l1, l2, l3, l4] (aR (fcn r 1) :: st) s := Ze_gf (len := 3) (idx := 15) (by decide +kernel) rfl h rfl
theorem x100_25 (h : obC r = 10) : Ze d 100 25 [l0, l1, l2, l3, l4] (aR r :: st) s = Ze d 100 28 [l0, l1, l2, l3, l4] (aR (fcn r 3) :: st) s := Ze_gf (len := 3) (idx := 45) (by decide +kernel) rfl h rfl
theorem x100_28 : Ze d 100 28 [l0, l1, aI z, l3, l4] st s = Ze d 100 29 [l0, l1, aI z, l3, l4] (aI z :: st) s := Ze_n (i := (.iload_n 2)) (len := 1) (by decide +kernel) rfl
theorem x100_29 (h0 : 0 ≤ i) (h1 : i < aN1 r) : Ze d 100 29 [l0, l1, l2, l3, l4] (aI i :: aR r :: st) s = Ze d 100 30 [l0, l1, l2, l3, l4] (aI (s r i.toNat) :: st) s := Ze_n (i := .iaload) (len := 1) (by decide +kernel) (if_pos ⟨h0, h1⟩)
theorem x100_30 : Ze d 100 30 [l0, l1, l2, l3, l4] [aI z] s = rI z s := Ze_i1 (by decide +kernel) rfl
theorem x100_31 : Ze d 100 31 [aR r, l1, l2, l3, l4] st s = Ze d 100 32 [aR r, l1, l2, l3, l4] (aR r :: st) s := Ze_n (i := (.aload_n 0)) (len := 1) (by decide +kernel) rfl
theorem x100_32 : Ze d 100 32 [l0, aR r, l2, l3, l4] st s = Ze d 100 33 [l0, aR r, l2, l3, l4] (aR r :: st) s := Ze_n (i := (.aload_n 1)) (len := 1) (by decide +kernel) rfl
theorem x100_33 : Ze d 100 33 [l0, l1, aI z, l3, l4] st s = Ze d 100 34 [l0, l1, aI z, l3, l4] (aI z :: st) s := Ze_n (i := (.iload_n 2)) (len := 1) (by decide +kernel) rfl
theorem x100_34 : Ze d 100 34 [l0, l1, l2, aI z, l4] st s = Ze d 100 35 [l0, l1, l2, aI z, l4] (aI z :: st) s := Ze_n (i := (.iload_n 3)) (len := 1) (by decide +kernel) rfl
theorem x100_35 (h : obC r = 4) (h6 : st.length ≤ 4) : Ze d 100 35 [l0, l1, l2, l3, l4] (aI a3 :: aI a2 :: aR r1 :: aR r :: st) s = zcI (Zc d 101 [aR r, aR r1, aI a2, aI a3] s) d 100 38 [l0, l1, l2, l3, l4] st := Ze_cvI (idx := 41) (len := 3) (as := [aR r1, aI a2, aI a3]) (by decide +kernel) rfl (by decide +kernel) rfl h h6
theorem x100_38 : Ze d 100 38 [l0, l1, l2, l3, l4] (aI a :: st) s = if a = 0 then Ze d 100 53 [l0, l1, l2, l3, l4] st s else Ze d 100 41 [l0, l1, l2, l3, l4] st s := Ze_b (i := (.ifCond .eq 15)) (len := 3) (by decide +kernel) rfl
theorem x100_41 : Ze d 100 41 [aR r, l1, l2, l3, l4] st s = Ze d 100 42 [aR r, l1, l2, l3, l4] (aR r :: st) s := Ze_n (i := (.aload_n 0)) (len := 1) (by decide +kernel) rfl
theorem x100_42 (h : obC r = 4) : Ze d 100 42 [l0, l1, l2, l3, l4] (aR r :: st) s = Ze d 100 45 [l0, l1, l2, l3, l4] (aR (fcn r 1) :: st) s := Ze_gf (len := 3) (idx := 15) (by decide +kernel) rfl h rfl
theorem x100_45 (h : obC r = 10) : Ze d 100 45 [l0, l1, l2, l3, l4] (aR r :: st) s = Ze d 100 48 [l0, l1, l2, l3, l4] (aR (fcn r 2) :: st) s := Ze_gf (len := 3) (idx := 36) (by decide +kernel) rfl h rfl
theorem x100_48 : Ze d 100 48 [l0, l1, aI z, l3, l4] st s = Ze d 100 49 [l0, l1, aI z, l3, l4] (aI z :: st) s := Ze_n (i := (.iload_n 2)) (len := 1) (by decide +kernel) rfl
theorem x100_49 (h0 : 0 ≤ i) (h1 : i < aN1 r) : Ze d 100 49 [l0, l1, l2, l3, l4] (aI i :: aR r :: st) s = Ze d 100 50 [l0, l1, l2, l3, l4] (aI (s r i.toNat) :: st) s := Ze_n (i := .iaload) (len := 1) (by decide +kernel) (if_pos ⟨h0, h1⟩)
theorem x100_50 : Ze d 100 50 [l0, l1, l2, l3, l4] st s = Ze d 100 62 [l0, l1, l2, l3, l4] st s := Ze_n (i := (.goto 12)) (len := 3) (by decide +kernel) rfl
theorem x100_53 : Ze d 100 53 [aR r, l1, l2, l3, l4] st s = Ze d 100 54 [aR r, l1, l2, l3, l4] (aR r :: st) s := Ze_n (i := (.aload_n 0)) (len := 1) (by decide +kernel) rfl
theorem x100_54 (h : obC r = 4) : Ze d 100 54 [l0, l1, l2, l3, l4] (aR r :: st) s = Ze d 100 57 [l0, l1, l2, l3, l4] (aR (fcn r 1) :: st) s := Ze_gf (len := 3) (idx := 15) (by decide +kernel) rfl h rfl
theorem x100_57 (h : obC r = 10) : Ze d 100 57 [l0, l1, l2, l3, l4] (aR r :: st) s = Ze d 100 60 [l0, l1, l2, l3, l4] (aR (fcn r 3) :: st) s := Ze_gf (len := 3) (idx := 45) (by decide +kernel) rfl h rfl
theorem x100_60 : Ze d 100 60 [l0, l1, aI z, l3, l4] st s = Ze d 100 61 [l0, l1, aI z, l3, l4] (aI z :: st) s := Ze_n (i := (.iload_n 2)) (len := 1) (by decide +kernel) rfl
theorem x100_61 (h0 : 0 ≤ i) (h1 : i < aN1 r) : Ze d 100 61 [l0, l1, l2, l3, l4] (aI i :: aR r :: st) s = Ze d 100 62 [l0, l1, l2, l3, l4] (aI (s r i.toNat) :: st) s := Ze_n (i := .iaload) (len := 1) (by decide +kernel) (if_pos ⟨h0, h1⟩)
theorem x100_62 : Ze d 100 62 [l0, l1, l2, l3, l4] (aI z :: st) s = Ze d 100 64 [l0, l1, l2, l3, aI z] st s := Ze_n (i := (.istore 4)) (len := 2) (by decide +kernel) rfl
theorem x100_64 : Ze d 100 64 [l0, aR r, l2, l3, l4] st s = Ze d 100 65 [l0, aR r, l2, l3, l4] (aR r :: st) s := Ze_n (i := (.aload_n 1)) (len := 1) (by decide +kernel) rfl
theorem x100_65 (h : obC r = 3) : Ze d 100 65 [l0, l1, l2, l3, l4] (aR r :: st) s = Ze d 100 68 [l0, l1, l2, l3, l4] (aR (fcn r 1) :: st) s := Ze_gf (len := 3) (idx := 25) (by decide +kernel) rfl h rfl
theorem x100_68 (h : obC r = 6) : Ze d 100 68 [l0, l1, l2, l3, l4] (aR r :: st) s = Ze d 100 71 [l0, l1, l2, l3, l4] (aR (fcn r 1) :: st) s := Ze_gf (len := 3) (idx := 48) (by decide +kernel) rfl h rfl
theorem x100_71 : Ze d 100 71 [l0, l1, l2, l3, aI z] st s = Ze d 100 73 [l0, l1, l2, l3, aI z] (aI z :: st) s := Ze_n (i := (.iload 4)) (len := 2) (by decide +kernel) rfl
theorem x100_73 (h0 : 0 ≤ i) (h1 : i < aN1 r) : Ze d 100 73 [l0, l1, l2, l3, l4] (aI i :: aR r :: st) s = Ze d 100 74 [l0, l1, l2, l3, l4] (aI (s r i.toNat) :: st) s := Ze_n (i := .iaload) (len := 1) (by decide +kernel) (if_pos ⟨h0, h1⟩)
theorem x100_74 : Ze d 100 74 [l0, l1, l2, aI z, l4] st s = Ze d 100 75 [l0, l1, l2, aI z, l4] (aI z :: st) s := Ze_n (i := (.iload_n 3)) (len := 1) (by decide +kernel) rfl
theorem x100_75 : Ze d 100 75 [l0, l1, l2, l3, l4] (aI b :: aI a :: st) s = Ze d 100 76 [l0, l1, l2, l3, l4] (aI (wrap (a + b)) :: st) s := Ze_n (i := .iadd) (len := 1) (by decide +kernel) rfl
theorem x100_76 : Ze d 100 76 [l0, l1, l2, l3, l4] [aI z] s = rI z s := Ze_i1 (by decide +kernel) rfl
theorem en100 : Zc (d + 1) 100 [aR r, aR r1, aI a2, aI a3] s = Ze d 100 0 [aR r, aR r1, aI a2, aI a3, aU] [] s := rfl
theorem x98_0 : Ze d 98 0 [aR r, l1, l2] st s = Ze d 98 1 [aR r, l1, l2] (aR r :: st) s := Ze_n (i := (.aload_n 0)) (len := 1) (by decide +kernel) rfl
theorem x98_1 (h : obC r = 4) : Ze d 98 1 [l0, l1, l2] (aR r :: st) s = Ze d 98 4 [l0, l1, l2] (aR (fcn r 0) :: st) s := Ze_gf (len := 3) (idx := 9) (by decide +kernel) rfl h rfl
theorem x98_4 (h : obC r = 12) : Ze d 98 4 [l0, l1, l2] (aR r :: st) s = Ze d 98 7 [l0, l1, l2] (aR (fcn r 3) :: st) s := Ze_gf (len := 3) (idx := 19) (by decide +kernel) rfl h rfl
theorem x98_7 : Ze d 98 7 [l0, aR r, l2] st s = Ze d 98 8 [l0, aR r, l2] (aR r :: st) s := Ze_n (i := (.aload_n 1)) (len := 1) (by decide +kernel) rfl
theorem x98_8 (h : obC r = 3) : Ze d 98 8 [l0, l1, l2] (aR r :: st) s = Ze d 98 11 [l0, l1, l2] (aR (fcn r 1) :: st) s := Ze_gf (len := 3) (idx := 25) (by decide +kernel) rfl h rfl
theorem x98_11 (h : obC r = 6) : Ze d 98 11 [l0, l1, l2] (aR r :: st) s = Ze d 98 14 [l0, l1, l2] (aR (fcn r 2) :: st) s := Ze_gf (len := 3) (idx := 31) (by decide +kernel) rfl h rfl
theorem x98_14 : Ze d 98 14 [aR r, l1, l2] st s = Ze d 98 15 [aR r, l1, l2] (aR r :: st) s := Ze_n (i := (.aload_n 0)) (len := 1) (by decide +kernel) rfl
theorem x98_15 (h : obC r = 4) : Ze d 98 15 [l0, l1, l2] (aR r :: st) s = Ze d 98 18 [l0, l1, l2] (aR (fcn r 1) :: st) s := Ze_gf (len := 3) (idx := 15) (by decide +kernel) rfl h rfl
theorem x98_18 (h : obC r = 10) : Ze d 98 18 [l0, l1, l2] (aR r :: st) s = Ze d 98 21 [l0, l1, l2] (aR (fcn r 2) :: st) s := Ze_gf (len := 3) (idx := 36) (by decide +kernel) rfl h rfl
theorem x98_21 : Ze d 98 21 [l0, l1, aI z] st s = Ze d 98 22 [l0, l1, aI z] (aI z :: st) s := Ze_n (i := (.iload_n 2)) (len := 1) (by decide +kernel) rfl
theorem x98_22 (h0 : 0 ≤ i) (h1 : i < aN1 r) : Ze d 98 22 [l0, l1, l2] (aI i :: aR r :: st) s = Ze d 98 23 [l0, l1, l2] (aI (s r i.toNat) :: st) s := Ze_n (i := .iaload) (len := 1) (by decide +kernel) (if_pos ⟨h0, h1⟩)
theorem x98_23 (h0 : 0 ≤ i) (h1 : i < aN1 r) : Ze d 98 23 [l0, l1, l2] (aI i :: aR r :: st) s = Ze d 98 24 [l0, l1, l2] (aI (s r i.toNat) :: st) s := Ze_n (i := .iaload) (len := 1) (by decide +kernel) (if_pos ⟨h0, h1⟩)
theorem x98_24 (h0 : 0 ≤ i) (h1 : i < aN1 r) : Ze d 98 24 [l0, l1, l2] (aI i :: aR r :: st) s = Ze d 98 25 [l0, l1, l2] (aI (s r i.toNat) :: st) s := Ze_n (i := .iaload) (len := 1) (by decide +kernel) (if_pos ⟨h0, h1⟩)
theorem x98_25 : Ze d 98 25 [l0, l1, l2] [aI z] s = rI z s := Ze_i1 (by decide +kernel) rfl
theorem en98 : Zc (d + 1) 98 [aR r, aR r1, aI a2] s = Ze d 98 0 [aR r, aR r1, aI a2] [] s := rfl
theorem x168_0 : Ze d 168 0 [aR r, l1, l2] st s = Ze d 168 1 [aR r, l1, l2] (aR r :: st) s := Ze_n (i := (.aload_n 0)) (len := 1) (by decide +kernel) rfl
theorem x168_1 : Ze d 168 1 [l0, aI z, l2] st s = Ze d 168 2 [l0, aI z, l2] (aI z :: st) s := Ze_n (i := (.iload_n 1)) (len := 1) (by decide +kernel) rfl
theorem x168_2 : Ze d 168 2 [l0, l1, aI z] st s = Ze d 168 3 [l0, l1, aI z] (aI z :: st) s := Ze_n (i := (.iload_n 2)) (len := 1) (by decide +kernel) rfl
theorem x168_3 : Ze d 168 3 [l0, l1, l2] st s = Ze d 168 4 [l0, l1, l2] (aI 1 :: st) s := Ze_n (i := (.iconst 1)) (len := 1) (by decide +kernel) rfl
theorem x168_4 (h : obC r = 12) (h6 : st.length ≤ 4) : Ze d 168 4 [l0, l1, l2] (aI a3 :: aI a2 :: aI a1 :: aR r :: st) s = zcI (Zc d 169 [aR r, aI a1, aI a2, aI a3] s) d 168 7 [l0, l1, l2] st := Ze_cvI (idx := 61) (len := 3) (as := [aI a1, aI a2, aI a3]) (by decide +kernel) rfl (by decide +kernel) rfl h h6
theorem x168_7 (h : z = 0 ∨ z = 1) : Ze d 168 7 [l0, l1, l2] [aI z] s = rI z s := Ze_i2 (by decide +kernel) rfl h
theorem en168 : Zc (d + 1) 168 [aR r, aI a1, aI a2] s = Ze d 168 0 [aR r, aI a1, aI a2] [] s := rfl
theorem x169_0 : Ze d 169 0 [l0, l1, l2, aI z, l4, l5, l6] st s = Ze d 169 1 [l0, l1, l2, aI z, l4, l5, l6] (aI z :: st) s := Ze_n (i := (.iload_n 3)) (len := 1) (by decide +kernel) rfl
theorem x169_1 : Ze d 169 1 [l0, l1, l2, l3, l4, l5, l6] st s = Ze d 169 2 [l0, l1, l2, l3, l4, l5, l6] (aI 3 :: st) s := Ze_n (i := (.iconst 3)) (len := 1) (by decide +kernel) rfl
theorem x169_2 : Ze d 169 2 [l0, l1, l2, l3, l4, l5, l6] (aI b :: aI a :: st) s = if b < a then Ze d 169 5 [l0, l1, l2, l3, l4, l5, l6] st s else Ze d 169 7 [l0, l1, l2, l3, l4, l5, l6] st s := Ze_b (i := (.if_icmp .le 5)) (len := 3) (by decide +kernel) rfl
theorem x169_5 : Ze d 169 5 [l0, l1, l2, l3, l4, l5, l6] st s = Ze d 169 6 [l0, l1, l2, l3, l4, l5, l6] (aI 0 :: st) s := Ze_n (i := (.iconst 0)) (len := 1) (by decide +kernel) rfl
theorem x169_6 (h : z = 0 ∨ z = 1) : Ze d 169 6 [l0, l1, l2, l3, l4, l5, l6] [aI z] s = rI z s := Ze_i2 (by decide +kernel) rfl h
theorem x169_7 : Ze d 169 7 [l0, aI z, l2, l3, l4, l5, l6] st s = Ze d 169 8 [l0, aI z, l2, l3, l4, l5, l6] (aI z :: st) s := Ze_n (i := (.iload_n 1)) (len := 1) (by decide +kernel) rfl
theorem x169_8 : Ze d 169 8 [l0, l1, l2, l3, l4, l5, l6] (aI z :: st) s = Ze d 169 10 [l0, l1, l2, l3, aI z, l5, l6] st s := Ze_n (i := (.istore 4)) (len := 2) (by decide +kernel) rfl
theorem x169_10 : Ze d 169 10 [l0, l1, aI z, l3, l4, l5, l6] st s = Ze d 169 11 [l0, l1, aI z, l3, l4, l5, l6] (aI z :: st) s := Ze_n (i := (.iload_n 2)) (len := 1) (by decide +kernel) rfl
theorem x169_11 : Ze d 169 11 [l0, l1, l2, l3, l4, l5, l6] (aI z :: st) s = Ze d 169 13 [l0, l1, l2, l3, l4, aI z, l6] st s := Ze_n (i := (.istore 5)) (len := 2) (by decide +kernel) rfl
theorem x169_13 : Ze d 169 13 [l0, l1, l2, l3, l4, l5, l6] st s = Ze d 169 14 [l0, l1, l2, l3, l4, l5, l6] (aI 0 :: st) s := Ze_n (i := (.iconst 0)) (len := 1) (by decide +kernel) rfl
theorem x169_14 : Ze d 169 14 [l0, l1, l2, l3, l4, l5, l6] (aI z :: st) s = Ze d 169 16 [l0, l1, l2, l3, l4, l5, aI z] st s := Ze_n (i := (.istore 6)) (len := 2) (by decide +kernel) rfl
theorem x169_16 : Ze d 169 16 [l0, l1, l2, l3, l4, l5, aI z] st s = Ze d 169 18 [l0, l1, l2, l3, l4, l5, aI z] (aI z :: st) s := Ze_n (i := (.iload 6)) (len := 2) (by decide +kernel) rfl
theorem x169_18 : Ze d 169 18 [aR r, l1, l2, l3, l4, l5, l6] st s = Ze d 169 19 [aR r, l1, l2, l3, l4, l5, l6] (aR r :: st) s := Ze_n (i := (.aload_n 0)) (len := 1) (by decide +kernel) rfl
theorem x169_19 (h : obC r = 12) : Ze d 169 19 [l0, l1, l2, l3, l4, l5, l6] (aR r :: st) s = Ze d 169 22 [l0, l1, l2, l3, l4, l5, l6] (aI (s r 4) :: st) s := Ze_gf (len := 3) (idx := 40) (by decide +kernel) rfl h rfl
theorem x169_22 : Ze d 169 22 [l0, l1, l2, l3, l4, l5, l6] (aI b :: aI a :: st) s = if a < b then Ze d 169 25 [l0, l1, l2, l3, l4, l5, l6] st s else Ze d 169 90 [l0, l1, l2, l3, l4, l5, l6] st s := Ze_b (i := (.if_icmp .ge 68)) (len := 3) (by decide +kernel) rfl
theorem x169_25 : Ze d 169 25 [aR r, l1, l2, l3, l4, l5, l6] st s = Ze d 169 26 [aR r, l1, l2, l3, l4, l5, l6] (aR r :: st) s := Ze_n (i := (.aload_n 0)) (len := 1) (by decide +kernel) rfl
theorem x169_26 (h : obC r = 12) : Ze d 169 26 [l0, l1, l2, l3, l4, l5, l6] (aR r :: st) s = Ze d 169 29 [l0, l1, l2, l3, l4, l5, l6] (aR (fcn r 0) :: st) s := Ze_gf (len := 3) (idx := 9) (by decide +kernel) rfl h rfl
theorem x169_29 : Ze d 169 29 [l0, l1, l2, l3, aI z, l5, l6] st s = Ze d 169 31 [l0, l1, l2, l3, aI z, l5, l6] (aI z :: st) s := Ze_n (i := (.iload 4)) (len := 2) (by decide +kernel) rfl
theorem x169_31 (h0 : 0 ≤ i) (h1 : i < aN1 r) : Ze d 169 31 [l0, l1, l2, l3, l4, l5, l6] (aI i :: aR r :: st) s = Ze d 169 32 [l0, l1, l2, l3, l4, l5, l6] (aI (s r i.toNat) :: st) s := Ze_n (i := .iaload) (len := 1) (by decide +kernel) (if_pos ⟨h0, h1⟩)
theorem x169_32 : Ze d 169 32 [l0, l1, l2, l3, l4, l5, l6] st s = Ze d 169 33 [l0, l1, l2, l3, l4, l5, l6] (aI 2 :: st) s := Ze_n (i := (.iconst 2)) (len := 1) (by decide +kernel) rfl
theorem x169_33 : Ze d 169 33 [l0, l1, l2, l3, l4, l5, l6] (aI b :: aI a :: st) s = if a = b then Ze d 169 36 [l0, l1, l2, l3, l4, l5, l6] st s else Ze d 169 90 [l0, l1, l2, l3, l4, l5, l6] st s := Ze_b (i := (.if_icmp .ne 57)) (len := 3) (by decide +kernel) rfl
theorem x169_36 : Ze d 169 36 [aR r, l1, l2, l3, l4, l5, l6] st s = Ze d 169 37 [aR r, l1, l2, l3, l4, l5, l6] (aR r :: st) s := Ze_n (i := (.aload_n 0)) (len := 1) (by decide +kernel) rfl
theorem x169_37 (h : obC r = 12) : Ze d 169 37 [l0, l1, l2, l3, l4, l5, l6] (aR r :: st) s = Ze d 169 40 [l0, l1, l2, l3, l4, l5, l6] (aR (fcn r 0) :: st) s := Ze_gf (len := 3) (idx := 9) (by decide +kernel) rfl h rfl
theorem x169_40 : Ze d 169 40 [l0, l1, l2, l3, l4, aI z, l6] st s = Ze d 169 42 [l0, l1, l2, l3, l4, aI z, l6] (aI z :: st) s := Ze_n (i := (.iload 5)) (len := 2) (by decide +kernel) rfl
theorem x169_42 (h0 : 0 ≤ i) (h1 : i < aN1 r) : Ze d 169 42 [l0, l1, l2, l3, l4, l5, l6] (aI i :: aR r :: st) s = Ze d 169 43 [l0, l1, l2, l3, l4, l5, l6] (aI (s r i.toNat) :: st) s := Ze_n (i := .iaload) (len := 1) (by decide +kernel) (if_pos ⟨h0, h1⟩)
theorem x169_43 : Ze d 169 43 [l0, l1, l2, l3, l4, l5, l6] st s = Ze d 169 44 [l0, l1, l2, l3, l4, l5, l6] (aI 2 :: st) s := Ze_n (i := (.iconst 2)) (len := 1) (by decide +kernel) rfl
theorem x169_44 : Ze d 169 44 [l0, l1, l2, l3, l4, l5, l6] (aI b :: aI a :: st) s = if a = b then Ze d 169 47 [l0, l1, l2, l3, l4, l5, l6] st s else Ze d 169 90 [l0, l1, l2, l3, l4, l5, l6] st s := Ze_b (i := (.if_icmp .ne 46)) (len := 3) (by decide +kernel) rfl
theorem x169_47 : Ze d 169 47 [aR r, l1, l2, l3, l4, l5, l6] st s = Ze d 169 48 [aR r, l1, l2, l3, l4, l5, l6] (aR r :: st) s := Ze_n (i := (.aload_n 0)) (len := 1) (by decide +kernel) rfl
theorem x169_48 (h : obC r = 12) : Ze d 169 48 [l0, l1, l2, l3, l4, l5, l6] (aR r :: st) s = Ze d 169 51 [l0, l1, l2, l3, l4, l5, l6] (aR (fcn r 2) :: st) s := Ze_gf (len := 3) (idx := 18) (by decide +kernel) rfl h rfl
theorem x169_51 : Ze d 169 51 [l0, l1, l2, l3, aI z, l5, l6] st s = Ze d 169 53 [l0, l1, l2, l3, aI z, l5, l6] (aI z :: st) s := Ze_n (i := (.iload 4)) (len := 2) (by decide +kernel) rfl
theorem x169_53 (h0 : 0 ≤ i) (h1 : i < aN1 r) : Ze d 169 53 [l0, l1, l2, l3, l4, l5, l6] (aI i :: aR r :: st) s = Ze d 169 54 [l0, l1, l2, l3, l4, l5, l6] (aI (s r i.toNat) :: st) s := Ze_n (i := .iaload) (len := 1) (by decide +kernel) (if_pos ⟨h0, h1⟩)
theorem x169_54 : Ze d 169 54 [aR r, l1, l2, l3, l4, l5, l6] st s = Ze d 169 55 [aR r, l1, l2, l3, l4, l5, l6] (aR r :: st) s := Ze_n (i := (.aload_n 0)) (len := 1) (by decide +kernel) rfl
theorem x169_55 (h : obC r = 12) : Ze d 169 55 [l0, l1, l2, l3, l4, l5, l6] (aR r :: st) s = Ze d 169 58 [l0, l1, l2, l3, l4, l5, l6] (aR (fcn r 2) :: st) s := Ze_gf (len := 3) (idx := 18) (by decide +kernel) rfl h rfl
theorem x169_58 : Ze d 169 58 [l0, l1, l2, l3, l4, aI z, l6] st s = Ze d 169 60 [l0, l1, l2, l3, l4, aI z, l6] (aI z :: st) s := Ze_n (i := (.iload 5)) (len := 2) (by decide +kernel) rfl
theorem x169_60 (h0 : 0 ≤ i) (h1 : i < aN1 r) : Ze d 169 60 [l0, l1, l2, l3, l4, l5, l6] (aI i :: aR r :: st) s = Ze d 169 61 [l0, l1, l2, l3, l4, l5, l6] (aI (s r i.toNat) :: st) s := Ze_n (i := .iaload) (len := 1) (by decide +kernel) (if_pos ⟨h0, h1⟩)
theorem x169_61 : Ze d 169 61 [l0, l1, l2, l3, l4, l5, l6] (aI b :: aI a :: st) s = if a = b then Ze d 169 66 [l0, l1, l2, l3, l4, l5, l6] st s else Ze d 169 64 [l0, l1, l2, l3, l4, l5, l6] st s := Ze_b (i := (.if_icmp .eq 5)) (len := 3) (by decide +kernel) rfl
theorem x169_64 : Ze d 169 64 [l0, l1, l2, l3, l4, l5, l6] st s = Ze d 169 65 [l0, l1, l2, l3, l4, l5, l6] (aI 0 :: st) s := Ze_n (i := (.iconst 0)) (len := 1) (by decide +kernel) rfl
theorem x169_65 (h : z = 0 ∨ z = 1) : Ze d 169 65 [l0, l1, l2, l3, l4, l5, l6] [aI z] s = rI z s := Ze_i2 (by decide +kernel) rfl h
theorem x169_66 : Ze d 169 66 [aR r, l1, l2, l3, l4, l5, l6] st s = Ze d 169 67 [aR r, l1, l2, l3, l4, l5, l6] (aR r :: st) s := Ze_n (i := (.aload_n 0)) (len := 1) (by decide +kernel) rfl
theorem x169_67 (h : obC r = 12) : Ze d 169 67 [l0, l1, l2, l3, l4, l5, l6] (aR r :: st) s = Ze d 169 70 [l0, l1, l2, l3, l4, l5, l6] (aR (fcn r 1) :: st) s := Ze_gf (len := 3) (idx := 15) (by decide +kernel) rfl h rfl
theorem x169_70 : Ze d 169 70 [l0, l1, l2, l3, aI z, l5, l6] st s = Ze d 169 72 [l0, l1, l2, l3, aI z, l5, l6] (aI z :: st) s := Ze_n (i := (.iload 4)) (len := 2) (by decide +kernel) rfl
theorem x169_72 (h0 : 0 ≤ i) (h1 : i < aN1 r) : Ze d 169 72 [l0, l1, l2, l3, l4, l5, l6] (aI i :: aR r :: st) s = Ze d 169 73 [l0, l1, l2, l3, l4, l5, l6] (aI (s r i.toNat) :: st) s := Ze_n (i := .iaload) (len := 1) (by decide +kernel) (if_pos ⟨h0, h1⟩)
theorem x169_73 : Ze d 169 73 [l0, l1, l2, l3, l4, l5, l6] (aI z :: st) s = Ze d 169 75 [l0, l1, l2, l3, aI z, l5, l6] st s := Ze_n (i := (.istore 4)) (len := 2) (by decide +kernel) rfl
theorem x169_75 : Ze d 169 75 [aR r, l1, l2, l3, l4, l5, l6] st s = Ze d 169 76 [aR r, l1, l2, l3, l4, l5, l6] (aR r :: st) s := Ze_n (i := (.aload_n 0)) (len := 1) (by decide +kernel) rfl
theorem x169_76 (h : obC r = 12) : Ze d 169 76 [l0, l1, l2, l3, l4, l5, l6] (aR r :: st) s = Ze d 169 79 [l0, l1, l2, l3, l4, l5, l6] (aR (fcn r 1) :: st) s := Ze_gf (len := 3) (idx := 15) (by decide +kernel) rfl h rfl
theorem x169_79 : Ze d 169 79 [l0, l1, l2, l3, l4, aI z, l6] st s = Ze d 169 81 [l0, l1, l2, l3, l4, aI z, l6] (aI z :: st) s := Ze_n (i := (.iload 5)) (len := 2) (by decide +kernel) rfl
theorem x169_81 (h0 : 0 ≤ i) (h1 : i < aN1 r) : Ze d 169 81 [l0, l1, l2, l3, l4, l5, l6] (aI i :: aR r :: st) s = Ze d 169 82 [l0, l1, l2, l3, l4, l5, l6] (aI (s r i.toNat) :: st) s := Ze_n (i := .iaload) (len := 1) (by decide +kernel) (if_pos ⟨h0, h1⟩)
theorem x169_82 : Ze d 169 82 [l0, l1, l2, l3, l4, l5, l6] (aI z :: st) s = Ze d 169 84 [l0, l1, l2, l3, l4, aI z, l6] st s := Ze_n (i := (.istore 5)) (len := 2) (by decide +kernel) rfl
theorem x169_84 : Ze d 169 84 [l0, l1, l2, l3, l4, l5, aI z] st s = Ze d 169 87 [l0, l1, l2, l3, l4, l5, aI (wrap (z + 1))] st s := Ze_n (i := (.iinc 6 1)) (len := 3) (by decide +kernel) rfl
theorem x169_87 : Ze d 169 87 [l0, l1, l2, l3, l4, l5, l6] st s = Ze d 169 16 [l0, l1, l2, l3, l4, l5, l6] st s := Ze_n (i := (.goto (-71))) (len := 3) (by decide +kernel) rfl
theorem x169_90 : Ze d 169 90 [aR r, l1, l2, l3, l4, l5, l6] st s = Ze d 169 91 [aR r, l1, l2, l3, l4, l5, l6] (aR r :: st) s := Ze_n (i := (.aload_n 0)) (len := 1) (by decide +kernel) rfl
theorem x169_91 (h : obC r = 12) : Ze d 169 91 [l0, l1, l2, l3, l4, l5, l6] (aR r :: st) s = Ze d 169 94 [l0, l1, l2, l3, l4, l5, l6] (aR (fcn r 0) :: st) s := Ze_gf (len := 3) (idx := 9) (by decide +kernel) rfl h rfl
theorem x169_94 : Ze d 169 94 [l0, l1, l2, l3, aI z, l5, l6] st s = Ze d 169 96 [l0, l1, l2, l3, aI z, l5, l6] (aI z :: st) s := Ze_n (i := (.iload 4)) (len := 2) (by decide +kernel) rfl
theorem x169_96 (h0 : 0 ≤ i) (h1 : i < aN1 r) : Ze d 169 96 [l0, l1, l2, l3, l4, l5, l6] (aI i :: aR r :: st) s = Ze d 169 97 [l0, l1, l2, l3, l4, l5, l6] (aI (s r i.toNat) :: st) s := Ze_n (i := .iaload) (len := 1) (by decide +kernel) (if_pos ⟨h0, h1⟩)
theorem x169_97 : Ze d 169 97 [aR r, l1, l2, l3, l4, l5, l6] st s = Ze d 169 98 [aR r, l1, l2, l3, l4, l5, l6] (aR r :: st) s := Ze_n (i := (.aload_n 0)) (len := 1) (by decide +kernel) rfl
theorem x169_98 (h : obC r = 12) : Ze d 169 98 [l0, l1, l2, l3, l4, l5, l6] (aR r :: st) s = Ze d 169 101 [l0, l1, l2, l3, l4, l5, l6] (aR (fcn r 0) :: st) s := Ze_gf (len := 3) (idx := 9) (by decide +kernel) rfl h rfl
theorem x169_101 : Ze d 169 101 [l0, l1, l2, l3, l4, aI z, l6] st s = Ze d 169 103 [l0, l1, l2, l3, l4, aI z, l6] (aI z :: st) s := Ze_n (i := (.iload 5)) (len := 2) (by decide +kernel) rfl
theorem x169_103 (h0 : 0 ≤ i) (h1 : i < aN1 r) : Ze d 169 103 [l0, l1, l2, l3, l4, l5, l6] (aI i :: aR r :: st) s = Ze d 169 104 [l0, l1, l2, l3, l4, l5, l6] (aI (s r i.toNat) :: st) s := Ze_n (i := .iaload) (len := 1) (by decide +kernel) (if_pos ⟨h0, h1⟩)
theorem x169_104 : Ze d 169 104 [l0, l1, l2, l3, l4, l5, l6] (aI b :: aI a :: st) s = if a = b then Ze d 169 109 [l0, l1, l2, l3, l4, l5, l6] st s else Ze d 169 107 [l0, l1, l2, l3, l4, l5, l6] st s := Ze_b (i := (.if_icmp .eq 5)) (len := 3) (by decide +kernel) rfl
theorem x169_107 : Ze d 169 107 [l0, l1, l2, l3, l4, l5, l6] st s = Ze d 169 108 [l0, l1, l2, l3, l4, l5, l6] (aI 0 :: st) s := Ze_n (i := (.iconst 0)) (len := 1) (by decide +kernel) rfl
theorem x169_108 (h : z = 0 ∨ z = 1) : Ze d 169 108 [l0, l1, l2, l3, l4, l5, l6] [aI z] s = rI z s := Ze_i2 (by decide +kernel) rfl h
theorem x169_109 : Ze d 169 109 [aR r, l1, l2, l3, l4, l5, l6] st s = Ze d 169 110 [aR r, l1, l2, l3, l4, l5, l6] (aR r :: st) s := Ze_n (i := (.aload_n 0)) (len := 1) (by decide +kernel) rfl
theorem x169_110 (h : obC r = 12) : Ze d 169 110 [l0, l1, l2, l3, l4, l5, l6] (aR r :: st) s = Ze d 169 113 [l0, l1, l2, l3, l4, l5, l6] (aR (fcn r 0) :: st) s := Ze_gf (len := 3) (idx := 9) (by decide +kernel) rfl h rfl
theorem x169_113 : Ze d 169 113 [l0, l1, l2, l3, aI z, l5, l6] st s = Ze d 169 115 [l0, l1, l2, l3, aI z, l5, l6] (aI z :: st) s := Ze_n (i := (.iload 4)) (len := 2) (by decide +kernel) rfl
theorem x169_115 (h0 : 0 ≤ i) (h1 : i < aN1 r) : Ze d 169 115 [l0, l1, l2, l3, l4, l5, l6] (aI i :: aR r :: st) s = Ze d 169 116 [l0, l1, l2, l3, l4, l5, l6] (aI (s r i.toNat) :: st) s := Ze_n (i := .iaload) (len := 1) (by decide +kernel) (if_pos ⟨h0, h1⟩)
theorem x169_116 : Ze d 169 116 [l0, l1, l2, l3, l4, l5, l6] (aI a :: st) s = if a = 0 then Ze d 169 141 [l0, l1, l2, l3, l4, l5, l6] st s else Ze d 169 119 [l0, l1, l2, l3, l4, l5, l6] st s := Ze_b (i := (.ifCond .eq 25)) (len := 3) (by decide +kernel) rfl
theorem x169_119 : Ze d 169 119 [aR r, l1, l2, l3, l4, l5, l6] st s = Ze d 169 120 [aR r, l1, l2, l3, l4, l5, l6] (aR r :: st) s := Ze_n (i := (.aload_n 0)) (len := 1) (by decide +kernel) rfl
theorem x169_120 : Ze d 169 120 [aR r, l1, l2, l3, l4, l5, l6] st s = Ze d 169 121 [aR r, l1, l2, l3, l4, l5, l6] (aR r :: st) s := Ze_n (i := (.aload_n 0)) (len := 1) (by decide +kernel) rfl
theorem x169_121 (h : obC r = 12) : Ze d 169 121 [l0, l1, l2, l3, l4, l5, l6] (aR r :: st) s = Ze d 169 124 [l0, l1, l2, l3, l4, l5, l6] (aR (fcn r 1) :: st) s := Ze_gf (len := 3) (idx := 15) (by decide +kernel) rfl h rfl
theorem x169_124 : Ze d 169 124 [l0, l1, l2, l3, aI z, l5, l6] st s = Ze d 169 126 [l0, l1, l2, l3, aI z, l5, l6] (aI z :: st) s := Ze_n (i := (.iload 4)) (len := 2) (by decide +kernel) rfl
theorem x169_126 (h0 : 0 ≤ i) (h1 : i < aN1 r) : Ze d 169 126 [l0, l1, l2, l3, l4, l5, l6] (aI i :: aR r :: st) s = Ze d 169 127 [l0, l1, l2, l3, l4, l5, l6] (aI (s r i.toNat) :: st) s := Ze_n (i := .iaload) (len := 1) (by decide +kernel) (if_pos ⟨h0, h1⟩)
theorem x169_127 : Ze d 169 127 [aR r, l1, l2, l3, l4, l5, l6] st s = Ze d 169 128 [aR r, l1, l2, l3, l4, l5, l6] (aR r :: st) s := Ze_n (i := (.aload_n 0)) (len := 1) (by decide +kernel) rfl
theorem x169_128 (h : obC r = 12) : Ze d 169 128 [l0, l1, l2, l3, l4, l5, l6] (aR r :: st) s = Ze d 169 131 [l0, l1, l2, l3, l4, l5, l6] (aR (fcn r 1) :: st) s := Ze_gf (len := 3) (idx := 15) (by decide +kernel) rfl h rfl
theorem x169_131 : Ze d 169 131 [l0, l1, l2, l3, l4, aI z, l6] st s = Ze d 169 133 [l0, l1, l2, l3, l4, aI z, l6] (aI z :: st) s := Ze_n (i := (.iload 5)) (len := 2) (by decide +kernel) rfl
theorem x169_133 (h0 : 0 ≤ i) (h1 : i < aN1 r) : Ze d 169 133 [l0, l1, l2, l3, l4, l5, l6] (aI i :: aR r :: st) s = Ze d 169 134 [l0, l1, l2, l3, l4, l5, l6] (aI (s r i.toNat) :: st) s := Ze_n (i := .iaload) (len := 1) (by decide +kernel) (if_pos ⟨h0, h1⟩)
theorem x169_134 : Ze d 169 134 [l0, l1, l2, aI z, l4, l5, l6] st s = Ze d 169 135 [l0, l1, l2, aI z, l4, l5, l6] (aI z :: st) s := Ze_n (i := (.iload_n 3)) (len := 1) (by decide +kernel) rfl
theorem x169_135 (h : obC r = 12) (h6 : st.length ≤ 4) : Ze d 169 135 [l0, l1, l2, l3, l4, l5, l6] (aI a3 :: aI a2 :: aI a1 :: aR r :: st) s = zcI (Zc d 170 [aR r, aI a1, aI a2, aI a3] s) d 169 138 [l0, l1, l2, l3, l4, l5, l6] st := Ze_cvI (idx := 65) (len := 3) (as := [aI a1, aI a2, aI a3]) (by decide +kernel) rfl (by decide +kernel) rfl h h6
theorem x169_138 : Ze d 169 138 [l0, l1, l2, l3, l4, l5, l6] (aI a :: st) s = if a = 0 then Ze d 169 145 [l0, l1, l2, l3, l4, l5, l6] st s else Ze d 169 141 [l0, l1, l2, l3, l4, l5, l6] st s := Ze_b (i := (.ifCond .eq 7)) (len := 3) (by decide +kernel) rfl
theorem x169_141 : Ze d 169 141 [l0, l1, l2, l3, l4, l5, l6] st s = Ze d 169 142 [l0, l1, l2, l3, l4, l5, l6] (aI 1 :: st) s := Ze_n (i := (.iconst 1)) (len := 1) (by decide +kernel) rfl
theorem x169_142 : Ze d 169 142 [l0, l1, l2, l3, l4, l5, l6] st s = Ze d 169 146 [l0, l1, l2, l3, l4, l5, l6] st s := Ze_n (i := (.goto 4)) (len := 3) (by decide +kernel) rfl
theorem x169_145 : Ze d 169 145 [l0, l1, l2, l3, l4, l5, l6] st s = Ze d 169 146 [l0, l1, l2, l3, l4, l5, l6] (aI 0 :: st) s := Ze_n (i := (.iconst 0)) (len := 1) (by decide +kernel) rfl
theorem x169_146 (h : z = 0 ∨ z = 1) : Ze d 169 146 [l0, l1, l2, l3, l4, l5, l6] [aI z] s = rI z s := Ze_i2 (by decide +kernel) rfl h
theorem en169 : Zc (d + 1) 169 [aR r, aI a1, aI a2, aI a3] s = Ze d 169 0 [aR r, aI a1, aI a2, aI a3, aU, aU, aU] [] s := rfl
theorem x170_0 : Ze d 170 0 [l0, aI z, l2, l3, l4, l5, l6] st s = Ze d 170 1 [l0, aI z, l2, l3, l4, l5, l6] (aI z :: st) s := Ze_n (i := (.iload_n 1)) (len := 1) (by decide +kernel) rfl
theorem x170_1 : Ze d 170 1 [l0, l1, l2, l3, l4, l5, l6] (aI z :: st) s = Ze d 170 3 [l0, l1, l2, l3, aI z, l5, l6] st s := Ze_n (i := (.istore 4)) (len := 2) (by decide +kernel) rfl
theorem x170_3 : Ze d 170 3 [l0, l1, aI z, l3, l4, l5, l6] st s = Ze d 170 4 [l0, l1, aI z, l3, l4, l5, l6] (aI z :: st) s := Ze_n (i := (.iload_n 2)) (len := 1) (by decide +kernel) rfl
theorem x170_4 : Ze d 170 4 [l0, l1, l2, l3, l4, l5, l6] (aI z :: st) s = Ze d 170 6 [l0, l1, l2, l3, l4, aI z, l6] st s := Ze_n (i := (.istore 5)) (len := 2) (by decide +kernel) rfl
theorem x170_6 : Ze d 170 6 [l0, l1, l2, l3, l4, l5, l6] st s = Ze d 170 7 [l0, l1, l2, l3, l4, l5, l6] (aI 0 :: st) s := Ze_n (i := (.iconst 0)) (len := 1) (by decide +kernel) rfl
theorem x170_7 : Ze d 170 7 [l0, l1, l2, l3, l4, l5, l6] (aI z :: st) s = Ze d 170 9 [l0, l1, l2, l3, l4, l5, aI z] st s := Ze_n (i := (.istore 6)) (len := 2) (by decide +kernel) rfl
theorem x170_9 : Ze d 170 9 [l0, l1, l2, l3, l4, l5, aI z] st s = Ze d 170 11 [l0, l1, l2, l3, l4, l5, aI z] (aI z :: st) s := Ze_n (i := (.iload 6)) (len := 2) (by decide +kernel) rfl
theorem x170_11 : Ze d 170 11 [aR r, l1, l2, l3, l4, l5, l6] st s = Ze d 170 12 [aR r, l1, l2, l3, l4, l5, l6] (aR r :: st) s := Ze_n (i := (.aload_n 0)) (len := 1) (by decide +kernel) rfl
theorem x170_12 (h : obC r = 12) : Ze d 170 12 [l0, l1, l2, l3, l4, l5, l6] (aR r :: st) s = Ze d 170 15 [l0, l1, l2, l3, l4, l5, l6] (aI (s r 10) :: st) s := Ze_gf (len := 3) (idx := 44) (by decide +kernel) rfl h rfl
theorem x170_15 : Ze d 170 15 [l0, l1, l2, l3, l4, l5, l6] (aI b :: aI a :: st) s = if a < b then Ze d 170 18 [l0, l1, l2, l3, l4, l5, l6] st s else Ze d 170 114 [l0, l1, l2, l3, l4, l5, l6] st s := Ze_b (i := (.if_icmp .ge 99)) (len := 3) (by decide +kernel) rfl
theorem x170_18 : Ze d 170 18 [l0, l1, l2, l3, aI z, l5, l6] st s = Ze d 170 20 [l0, l1, l2, l3, aI z, l5, l6] (aI z :: st) s := Ze_n (i := (.iload 4)) (len := 2) (by decide +kernel) rfl
theorem x170_20 : Ze d 170 20 [l0, l1, l2, l3, l4, l5, l6] st s = Ze d 170 21 [l0, l1, l2, l3, l4, l5, l6] (aI (-1) :: st) s := Ze_n (i := (.iconst (-1))) (len := 1) (by decide +kernel) rfl
theorem x170_21 : Ze d 170 21 [l0, l1, l2, l3, l4, l5, l6] (aI b :: aI a :: st) s = if a = b then Ze d 170 114 [l0, l1, l2, l3, l4, l5, l6] st s else Ze d 170 24 [l0, l1, l2, l3, l4, l5, l6] st s := Ze_b (i := (.if_icmp .eq 93)) (len := 3) (by decide +kernel) rfl
theorem x170_24 : Ze d 170 24 [l0, l1, l2, l3, l4, aI z, l6] st s = Ze d 170 26 [l0, l1, l2, l3, l4, aI z, l6] (aI z :: st) s := Ze_n (i := (.iload 5)) (len := 2) (by decide +kernel) rfl
theorem x170_26 : Ze d 170 26 [l0, l1, l2, l3, l4, l5, l6] st s = Ze d 170 27 [l0, l1, l2, l3, l4, l5, l6] (aI (-1) :: st) s := Ze_n (i := (.iconst (-1))) (len := 1) (by decide +kernel) rfl
theorem x170_27 : Ze d 170 27 [l0, l1, l2, l3, l4, l5, l6] (aI b :: aI a :: st) s = if a = b then Ze d 170 114 [l0, l1, l2, l3, l4, l5, l6] st s else Ze d 170 30 [l0, l1, l2, l3, l4, l5, l6] st s := Ze_b (i := (.if_icmp .eq 87)) (len := 3) (by decide +kernel) rfl
theorem x170_30 : Ze d 170 30 [aR r, l1, l2, l3, l4, l5, l6] st s = Ze d 170 31 [aR r, l1, l2, l3, l4, l5, l6] (aR r :: st) s := Ze_n (i := (.aload_n 0)) (len := 1) (by decide +kernel) rfl
theorem x170_31 (h : obC r = 12) : Ze d 170 31 [l0, l1, l2, l3, l4, l5, l6] (aR r :: st) s = Ze d 170 34 [l0, l1, l2, l3, l4, l5, l6] (aR (fcn r 5) :: st) s := Ze_gf (len := 3) (idx := 24) (by decide +kernel) rfl h rfl
theorem x170_34 : Ze d 170 34 [l0, l1, l2, l3, aI z, l5, l6] st s = Ze d 170 36 [l0, l1, l2, l3, aI z, l5, l6] (aI z :: st) s := Ze_n (i := (.iload 4)) (len := 2) (by decide +kernel) rfl
theorem x170_36 (h0 : 0 ≤ i) (h1 : i < aN1 r) : Ze d 170 36 [l0, l1, l2, l3, l4, l5, l6] (aI i :: aR r :: st) s = Ze d 170 37 [l0, l1, l2, l3, l4, l5, l6] (aI (s r i.toNat) :: st) s := Ze_n (i := .iaload) (len := 1) (by decide +kernel) (if_pos ⟨h0, h1⟩)
theorem x170_37 : Ze d 170 37 [aR r, l1, l2, l3, l4, l5, l6] st s = Ze d 170 38 [aR r, l1, l2, l3, l4, l5, l6] (aR r :: st) s := Ze_n (i := (.aload_n 0)) (len := 1) (by decide +kernel) rfl
theorem x170_38 (h : obC r = 12) : Ze d 170 38 [l0, l1, l2, l3, l4, l5, l6] (aR r :: st) s = Ze d 170 41 [l0, l1, l2, l3, l4, l5, l6] (aR (fcn r 5) :: st) s := Ze_gf (len := 3) (idx := 24) (by decide +kernel) rfl h rfl
theorem x170_41 : Ze d 170 41 [l0, l1, l2, l3, l4, aI z, l6] st s = Ze d 170 43 [l0, l1, l2, l3, l4, aI z, l6] (aI z :: st) s := Ze_n (i := (.iload 5)) (len := 2) (by decide +kernel) rfl
theorem x170_43 (h0 : 0 ≤ i) (h1 : i < aN1 r) : Ze d 170 43 [l0, l1, l2, l3, l4, l5, l6] (aI i :: aR r :: st) s = Ze d 170 44 [l0, l1, l2, l3, l4, l5, l6] (aI (s r i.toNat) :: st) s := Ze_n (i := .iaload) (len := 1) (by decide +kernel) (if_pos ⟨h0, h1⟩)
theorem x170_44 : Ze d 170 44 [l0, l1, l2, l3, l4, l5, l6] (aI b :: aI a :: st) s = if a = b then Ze d 170 47 [l0, l1, l2, l3, l4, l5, l6] st s else Ze d 170 88 [l0, l1, l2, l3, l4, l5, l6] st s := Ze_b (i := (.if_icmp .ne 44)) (len := 3) (by decide +kernel) rfl
theorem x170_47 : Ze d 170 47 [aR r, l1, l2, l3, l4, l5, l6] st s = Ze d 170 48 [aR r, l1, l2, l3, l4, l5, l6] (aR r :: st) s := Ze_n (i := (.aload_n 0)) (len := 1) (by decide +kernel) rfl
theorem x170_48 (h : obC r = 12) : Ze d 170 48 [l0, l1, l2, l3, l4, l5, l6] (aR r :: st) s = Ze d 170 51 [l0, l1, l2, l3, l4, l5, l6] (aR (fcn r 6) :: st) s := Ze_gf (len := 3) (idx := 27) (by decide +kernel) rfl h rfl
theorem x170_51 : Ze d 170 51 [l0, l1, l2, l3, aI z, l5, l6] st s = Ze d 170 53 [l0, l1, l2, l3, aI z, l5, l6] (aI z :: st) s := Ze_n (i := (.iload 4)) (len := 2) (by decide +kernel) rfl
theorem x170_53 (h0 : 0 ≤ i) (h1 : i < aN2 r) : Ze d 170 53 [l0, l1, l2, l3, l4, l5, l6] (aI i :: aR r :: st) s = Ze d 170 54 [l0, l1, l2, l3, l4, l5, l6] (aI (s r i.toNat) :: st) s := Ze_n (i := .baload) (len := 1) (by decide +kernel) (if_pos ⟨h0, h1⟩)
theorem x170_54 : Ze d 170 54 [aR r, l1, l2, l3, l4, l5, l6] st s = Ze d 170 55 [aR r, l1, l2, l3, l4, l5, l6] (aR r :: st) s := Ze_n (i := (.aload_n 0)) (len := 1) (by decide +kernel) rfl
theorem x170_55 (h : obC r = 12) : Ze d 170 55 [l0, l1, l2, l3, l4, l5, l6] (aR r :: st) s = Ze d 170 58 [l0, l1, l2, l3, l4, l5, l6] (aR (fcn r 6) :: st) s := Ze_gf (len := 3) (idx := 27) (by decide +kernel) rfl h rfl
theorem x170_58 : Ze d 170 58 [l0, l1, l2, l3, l4, aI z, l6] st s = Ze d 170 60 [l0, l1, l2, l3, l4, aI z, l6] (aI z :: st) s := Ze_n (i := (.iload 5)) (len := 2) (by decide +kernel) rfl
theorem x170_60 (h0 : 0 ≤ i) (h1 : i < aN2 r) : Ze d 170 60 [l0, l1, l2, l3, l4, l5, l6] (aI i :: aR r :: st) s = Ze d 170 61 [l0, l1, l2, l3, l4, l5, l6] (aI (s r i.toNat) :: st) s := Ze_n (i := .baload) (len := 1) (by decide +kernel) (if_pos ⟨h0, h1⟩)
theorem x170_61 : Ze d 170 61 [l0, l1, l2, l3, l4, l5, l6] (aI b :: aI a :: st) s = if a = b then Ze d 170 64 [l0, l1, l2, l3, l4, l5, l6] st s else Ze d 170 88 [l0, l1, l2, l3, l4, l5, l6] st s := Ze_b (i := (.if_icmp .ne 27)) (len := 3) (by decide +kernel) rfl
theorem x170_64 : Ze d 170 64 [aR r, l1, l2, l3, l4, l5, l6] st s = Ze d 170 65 [aR r, l1, l2, l3, l4, l5, l6] (aR r :: st) s := Ze_n (i := (.aload_n 0)) (len := 1) (by decide +kernel) rfl
theorem x170_65 : Ze d 170 65 [aR r, l1, l2, l3, l4, l5, l6] st s = Ze d 170 66 [aR r, l1, l2, l3, l4, l5, l6] (aR r :: st) s := Ze_n (i := (.aload_n 0)) (len := 1) (by decide +kernel) rfl
theorem x170_66 (h : obC r = 12) : Ze d 170 66 [l0, l1, l2, l3, l4, l5, l6] (aR r :: st) s = Ze d 170 69 [l0, l1, l2, l3, l4, l5, l6] (aR (fcn r 7) :: st) s := Ze_gf (len := 3) (idx := 31) (by decide +kernel) rfl h rfl
theorem x170_69 : Ze d 170 69 [l0, l1, l2, l3, aI z, l5, l6] st s = Ze d 170 71 [l0, l1, l2, l3, aI z, l5, l6] (aI z :: st) s := Ze_n (i := (.iload 4)) (len := 2) (by decide +kernel) rfl
theorem x170_71 (h0 : 0 ≤ i) (h1 : i < aN1 r) : Ze d 170 71 [l0, l1, l2, l3, l4, l5, l6] (aI i :: aR r :: st) s = Ze d 170 72 [l0, l1, l2, l3, l4, l5, l6] (aI (s r i.toNat) :: st) s := Ze_n (i := .iaload) (len := 1) (by decide +kernel) (if_pos ⟨h0, h1⟩)
theorem x170_72 : Ze d 170 72 [aR r, l1, l2, l3, l4, l5, l6] st s = Ze d 170 73 [aR r, l1, l2, l3, l4, l5, l6] (aR r :: st) s := Ze_n (i := (.aload_n 0)) (len := 1) (by decide +kernel) rfl
theorem x170_73 (h : obC r = 12) : Ze d 170 73 [l0, l1, l2, l3, l4, l5, l6] (aR r :: st) s = Ze d 170 76 [l0, l1, l2, l3, l4, l5, l6] (aR (fcn r 7) :: st) s := Ze_gf (len := 3) (idx := 31) (by decide +kernel) rfl h rfl
theorem x170_76 : Ze d 170 76 [l0, l1, l2, l3, l4, aI z, l6] st s = Ze d 170 78 [l0, l1, l2, l3, l4, aI z, l6] (aI z :: st) s := Ze_n (i := (.iload 5)) (len := 2) (by decide +kernel) rfl
theorem x170_78 (h0 : 0 ≤ i) (h1 : i < aN1 r) : Ze d 170 78 [l0, l1, l2, l3, l4, l5, l6] (aI i :: aR r :: st) s = Ze d 170 79 [l0, l1, l2, l3, l4, l5, l6] (aI (s r i.toNat) :: st) s := Ze_n (i := .iaload) (len := 1) (by decide +kernel) (if_pos ⟨h0, h1⟩)
theorem x170_79 : Ze d 170 79 [l0, l1, l2, aI z, l4, l5, l6] st s = Ze d 170 80 [l0, l1, l2, aI z, l4, l5, l6] (aI z :: st) s := Ze_n (i := (.iload_n 3)) (len := 1) (by decide +kernel) rfl
theorem x170_80 : Ze d 170 80 [l0, l1, l2, l3, l4, l5, l6] st s = Ze d 170 81 [l0, l1, l2, l3, l4, l5, l6] (aI 1 :: st) s := Ze_n (i := (.iconst 1)) (len := 1) (by decide +kernel) rfl
theorem x170_81 : Ze d 170 81 [l0, l1, l2, l3, l4, l5, l6] (aI b :: aI a :: st) s = Ze d 170 82 [l0, l1, l2, l3, l4, l5, l6] (aI (wrap (a + b)) :: st) s := Ze_n (i := .iadd) (len := 1) (by decide +kernel) rfl
theorem x170_82 (h : obC r = 12) (h6 : st.length ≤ 4) : Ze d 170 82 [l0, l1, l2, l3, l4, l5, l6] (aI a3 :: aI a2 :: aI a1 :: aR r :: st) s = zcI (Zc d 169 [aR r, aI a1, aI a2, aI a3] s) d 170 85 [l0, l1, l2, l3, l4, l5, l6] st := Ze_cvI (idx := 61) (len := 3) (as := [aI a1, aI a2, aI a3]) (by decide +kernel) rfl (by decide +kernel) rfl h h6
theorem x170_85 : Ze d 170 85 [l0, l1, l2, l3, l4, l5, l6] (aI a :: st) s = if a = 0 then Ze d 170 88 [l0, l1, l2, l3, l4, l5, l6] st s else Ze d 170 90 [l0, l1, l2, l3, l4, l5, l6] st s := Ze_b (i := (.ifCond .ne 5)) (len := 3) (by decide +kernel) rfl
theorem x170_88 : Ze d 170 88 [l0, l1, l2, l3, l4, l5, l6] st s = Ze d 170 89 [l0, l1, l2, l3, l4, l5, l6] (aI 0 :: st) s := Ze_n (i := (.iconst 0)) (len := 1) (by decide +kernel) rfl
theorem x170_89 (h : z = 0 ∨ z = 1) : Ze d 170 89 [l0, l1, l2, l3, l4, l5, l6] [aI z] s = rI z s := Ze_i2 (by decide +kernel) rfl h
theorem x170_90 : Ze d 170 90 [aR r, l1, l2, l3, l4, l5, l6] st s = Ze d 170 91 [aR r, l1, l2, l3, l4, l5, l6] (aR r :: st) s := Ze_n (i := (.aload_n 0)) (len := 1) (by decide +kernel) rfl
theorem x170_91 (h : obC r = 12) : Ze d 170 91 [l0, l1, l2, l3, l4, l5, l6] (aR r :: st) s = Ze d 170 94 [l0, l1, l2, l3, l4, l5, l6] (aR (fcn r 9) :: st) s := Ze_gf (len := 3) (idx := 37) (by decide +kernel) rfl h rfl
theorem x170_94 : Ze d 170 94 [l0, l1, l2, l3, aI z, l5, l6] st s = Ze d 170 96 [l0, l1, l2, l3, aI z, l5, l6] (aI z :: st) s := Ze_n (i := (.iload 4)) (len := 2) (by decide +kernel) rfl
theorem x170_96 (h0 : 0 ≤ i) (h1 : i < aN1 r) : Ze d 170 96 [l0, l1, l2, l3, l4, l5, l6] (aI i :: aR r :: st) s = Ze d 170 97 [l0, l1, l2, l3, l4, l5, l6] (aI (s r i.toNat) :: st) s := Ze_n (i := .iaload) (len := 1) (by decide +kernel) (if_pos ⟨h0, h1⟩)
theorem x170_97 : Ze d 170 97 [l0, l1, l2, l3, l4, l5, l6] (aI z :: st) s = Ze d 170 99 [l0, l1, l2, l3, aI z, l5, l6] st s := Ze_n (i := (.istore 4)) (len := 2) (by decide +kernel) rfl
theorem x170_99 : Ze d 170 99 [aR r, l1, l2, l3, l4, l5, l6] st s = Ze d 170 100 [aR r, l1, l2, l3, l4, l5, l6] (aR r :: st) s := Ze_n (i := (.aload_n 0)) (len := 1) (by decide +kernel) rfl
theorem x170_100 (h : obC r = 12) : Ze d 170 100 [l0, l1, l2, l3, l4, l5, l6] (aR r :: st) s = Ze d 170 103 [l0, l1, l2, l3, l4, l5, l6] (aR (fcn r 9) :: st) s := Ze_gf (len := 3) (idx := 37) (by decide +kernel) rfl h rfl
theorem x170_103 : Ze d 170 103 [l0, l1, l2, l3, l4, aI z, l6] st s = Ze d 170 105 [l0, l1, l2, l3, l4, aI z, l6] (aI z :: st) s := Ze_n (i := (.iload 5)) (len := 2) (by decide +kernel) rfl
theorem x170_105 (h0 : 0 ≤ i) (h1 : i < aN1 r) : Ze d 170 105 [l0, l1, l2, l3, l4, l5, l6] (aI i :: aR r :: st) s = Ze d 170 106 [l0, l1, l2, l3, l4, l5, l6] (aI (s r i.toNat) :: st) s := Ze_n (i := .iaload) (len := 1) (by decide +kernel) (if_pos ⟨h0, h1⟩)
theorem x170_106 : Ze d 170 106 [l0, l1, l2, l3, l4, l5, l6] (aI z :: st) s = Ze d 170 108 [l0, l1, l2, l3, l4, aI z, l6] st s := Ze_n (i := (.istore 5)) (len := 2) (by decide +kernel) rfl
theorem x170_108 : Ze d 170 108 [l0, l1, l2, l3, l4, l5, aI z] st s = Ze d 170 111 [l0, l1, l2, l3, l4, l5, aI (wrap (z + 1))] st s := Ze_n (i := (.iinc 6 1)) (len := 3) (by decide +kernel) rfl
theorem x170_111 : Ze d 170 111 [l0, l1, l2, l3, l4, l5, l6] st s = Ze d 170 9 [l0, l1, l2, l3, l4, l5, l6] st s := Ze_n (i := (.goto (-102))) (len := 3) (by decide +kernel) rfl
theorem x170_114 : Ze d 170 114 [l0, l1, l2, l3, aI z, l5, l6] st s = Ze d 170 116 [l0, l1, l2, l3, aI z, l5, l6] (aI z :: st) s := Ze_n (i := (.iload 4)) (len := 2) (by decide +kernel) rfl
theorem x170_116 : Ze d 170 116 [l0, l1, l2, l3, l4, l5, l6] st s = Ze d 170 117 [l0, l1, l2, l3, l4, l5, l6] (aI (-1) :: st) s := Ze_n (i := (.iconst (-1))) (len := 1) (by decide +kernel) rfl
theorem x170_117 : Ze d 170 117 [l0, l1, l2, l3, l4, l5, l6] (aI b :: aI a :: st) s = if a = b then Ze d 170 120 [l0, l1, l2, l3, l4, l5, l6] st s else Ze d 170 130 [l0, l1, l2, l3, l4, l5, l6] st s := Ze_b (i := (.if_icmp .ne 13)) (len := 3) (by decide +kernel) rfl
theorem x170_120 : Ze d 170 120 [l0, l1, l2, l3, l4, aI z, l6] st s = Ze d 170 122 [l0, l1, l2, l3, l4, aI z, l6] (aI z :: st) s := Ze_n (i := (.iload 5)) (len := 2) (by decide +kernel) rfl
theorem x170_122 : Ze d 170 122 [l0, l1, l2, l3, l4, l5, l6] st s = Ze d 170 123 [l0, l1, l2, l3, l4, l5, l6] (aI (-1) :: st) s := Ze_n (i := (.iconst (-1))) (len := 1) (by decide +kernel) rfl
theorem x170_123 : Ze d 170 123 [l0, l1, l2, l3, l4, l5, l6] (aI b :: aI a :: st) s = if a = b then Ze d 170 126 [l0, l1, l2, l3, l4, l5, l6] st s else Ze d 170 130 [l0, l1, l2, l3, l4, l5, l6] st s := Ze_b (i := (.if_icmp .ne 7)) (len := 3) (by decide +kernel) rfl
theorem x170_126 : Ze d 170 126 [l0, l1, l2, l3, l4, l5, l6] st s = Ze d 170 127 [l0, l1, l2, l3, l4, l5, l6] (aI 1 :: st) s := Ze_n (i := (.iconst 1)) (len := 1) (by decide +kernel) rfl
theorem x170_127 : Ze d 170 127 [l0, l1, l2, l3, l4, l5, l6] st s = Ze d 170 131 [l0, l1, l2, l3, l4, l5, l6] st s := Ze_n (i := (.goto 4)) (len := 3) (by decide +kernel) rfl
theorem x170_130 : Ze d 170 130 [l0, l1, l2, l3, l4, l5, l6] st s = Ze d 170 131 [l0, l1, l2, l3, l4, l5, l6] (aI 0 :: st) s := Ze_n (i := (.iconst 0)) (len := 1) (by decide +kernel) rfl
theorem x170_131 (h : z = 0 ∨ z = 1) : Ze d 170 131 [l0, l1, l2, l3, l4, l5, l6] [aI z] s = rI z s := Ze_i2 (by decide +kernel) rfl h
theorem en170 : Zc (d + 1) 170 [aR r, aI a1, aI a2, aI a3] s = Ze d 170 0 [aR r, aI a1, aI a2, aI a3, aU, aU, aU] [] s := rfl
theorem x83_0 : Ze d 83 0 [l0, l1, l2, l3, l4, aI z, l6, l7, l8] st s = Ze d 83 2 [l0, l1, l2, l3, l4, aI z, l6, l7, l8] (aI z :: st) s := Ze_n (i := (.iload 5)) (len := 2) (by decide +kernel) rfl
theorem x83_2 : Ze d 83 2 [l0, l1, l2, l3, l4, l5, l6, l7, l8] st s = Ze d 83 3 [l0, l1, l2, l3, l4, l5, l6, l7, l8] (aI 3 :: st) s := Ze_n (i := (.iconst 3)) (len := 1) (by decide +kernel) rfl
theorem x83_3 : Ze d 83 3 [l0, l1, l2, l3, l4, l5, l6, l7, l8] (aI b :: aI a :: st) s = if b < a then Ze d 83 6 [l0, l1, l2, l3, l4, l5, l6, l7, l8] st s else Ze d 83 7 [l0, l1, l2, l3, l4, l5, l6, l7, l8] st s := Ze_b (i := (.if_icmp .le 4)) (len := 3) (by decide +kernel) rfl
theorem x83_6 : Ze d 83 6 [l0, l1, l2, l3, l4, l5, l6, l7, l8] [] s = rV s := Ze_v (by decide +kernel) rfl
theorem x83_7 : Ze d 83 7 [l0, l1, l2, aI z, l4, l5, l6, l7, l8] st s = Ze d 83 8 [l0, l1, l2, aI z, l4, l5, l6, l7, l8] (aI z :: st) s := Ze_n (i := (.iload_n 3)) (len := 1) (by decide +kernel) rfl
theorem x83_8 : Ze d 83 8 [l0, l1, l2, l3, l4, l5, l6, l7, l8] (aI z :: st) s = Ze d 83 10 [l0, l1, l2, l3, l4, l5, aI z, l7, l8] st s := Ze_n (i := (.istore 6)) (len := 2) (by decide +kernel) rfl
theorem x83_10 : Ze d 83 10 [l0, l1, l2, l3, l4, l5, l6, l7, l8] st s = Ze d 83 11 [l0, l1, l2, l3, l4, l5, l6, l7, l8] (aI 1 :: st) s := Ze_n (i := (.iconst 1)) (len := 1) (by decide +kernel) rfl
theorem x83_11 : Ze d 83 11 [l0, l1, l2, l3, l4, l5, l6, l7, l8] (aI z :: st) s = Ze d 83 13 [l0, l1, l2, l3, l4, l5, l6, aI z, l8] st s := Ze_n (i := (.istore 7)) (len := 2) (by decide +kernel) rfl
theorem x83_13 : Ze d 83 13 [l0, l1, l2, l3, l4, l5, l6, l7, l8] st s = Ze d 83 14 [l0, l1, l2, l3, l4, l5, l6, l7, l8] (aI 0 :: st) s := Ze_n (i := (.iconst 0)) (len := 1) (by decide +kernel) rfl
theorem x83_14 : Ze d 83 14 [l0, l1, l2, l3, l4, l5, l6, l7, l8] (aI z :: st) s = Ze d 83 16 [l0, l1, l2, l3, l4, l5, l6, l7, aI z] st s := Ze_n (i := (.istore 8)) (len := 2) (by decide +kernel) rfl
theorem x83_16 : Ze d 83 16 [l0, l1, l2, l3, l4, l5, l6, l7, aI z] st s = Ze d 83 18 [l0, l1, l2, l3, l4, l5, l6, l7, aI z] (aI z :: st) s := Ze_n (i := (.iload 8)) (len := 2) (by decide +kernel) rfl
theorem x83_18 : Ze d 83 18 [aR r, l1, l2, l3, l4, l5, l6, l7, l8] st s = Ze d 83 19 [aR r, l1, l2, l3, l4, l5, l6, l7, l8] (aR r :: st) s := Ze_n (i := (.aload_n 0)) (len := 1) (by decide +kernel) rfl
theorem x83_19 (h : obC r = 2) : Ze d 83 19 [l0, l1, l2, l3, l4, l5, l6, l7, l8] (aR r :: st) s = Ze d 83 22 [l0, l1, l2, l3, l4, l5, l6, l7, l8] (aR (fcn r 0) :: st) s := Ze_gf (len := 3) (idx := 18) (by decide +kernel) rfl h rfl
theorem x83_22 (h : obC r = 12) : Ze d 83 22 [l0, l1, l2, l3, l4, l5, l6, l7, l8] (aR r :: st) s = Ze d 83 25 [l0, l1, l2, l3, l4, l5, l6, l7, l8] (aI (s r 4) :: st) s := Ze_gf (len := 3) (idx := 119) (by decide +kernel) rfl h rfl
theorem x83_25 : Ze d 83 25 [l0, l1, l2, l3, l4, l5, l6, l7, l8] (aI b :: aI a :: st) s = if a < b then Ze d 83 28 [l0, l1, l2, l3, l4, l5, l6, l7, l8] st s else Ze d 83 75 [l0, l1, l2, l3, l4, l5, l6, l7, l8] st s := Ze_b (i := (.if_icmp .ge 50)) (len := 3) (by decide +kernel) rfl
theorem x83_28 : Ze d 83 28 [aR r, l1, l2, l3, l4, l5, l6, l7, l8] st s = Ze d 83 29 [aR r, l1, l2, l3, l4, l5, l6, l7, l8] (aR r :: st) s := Ze_n (i := (.aload_n 0)) (len := 1) (by decide +kernel) rfl
theorem x83_29 (h : obC r = 2) : Ze d 83 29 [l0, l1, l2, l3, l4, l5, l6, l7, l8] (aR r :: st) s = Ze d 83 32 [l0, l1, l2, l3, l4, l5, l6, l7, l8] (aR (fcn r 0) :: st) s := Ze_gf (len := 3) (idx := 18) (by decide +kernel) rfl h rfl
theorem x83_32 (h : obC r = 12) : Ze d 83 32 [l0, l1, l2, l3, l4, l5, l6, l7, l8] (aR r :: st) s = Ze d 83 35 [l0, l1, l2, l3, l4, l5, l6, l7, l8] (aR (fcn r 0) :: st) s := Ze_gf (len := 3) (idx := 120) (by decide +kernel) rfl h rfl
theorem x83_35 : Ze d 83 35 [l0, l1, l2, l3, l4, l5, aI z, l7, l8] st s = Ze d 83 37 [l0, l1, l2, l3, l4, l5, aI z, l7, l8] (aI z :: st) s := Ze_n (i := (.iload 6)) (len := 2) (by decide +kernel) rfl
theorem x83_37 (h0 : 0 ≤ i) (h1 : i < aN1 r) : Ze d 83 37 [l0, l1, l2, l3, l4, l5, l6, l7, l8] (aI i :: aR r :: st) s = Ze d 83 38 [l0, l1, l2, l3, l4, l5, l6, l7, l8] (aI (s r i.toNat) :: st) s := Ze_n (i := .iaload) (len := 1) (by decide +kernel) (if_pos ⟨h0, h1⟩)
theorem x83_38 : Ze d 83 38 [l0, l1, l2, l3, l4, l5, l6, l7, l8] st s = Ze d 83 39 [l0, l1, l2, l3, l4, l5, l6, l7, l8] (aI 2 :: st) s := Ze_n (i := (.iconst 2)) (len := 1) (by decide +kernel) rfl
theorem x83_39 : Ze d 83 39 [l0, l1, l2, l3, l4, l5, l6, l7, l8] (aI b :: aI a :: st) s = if a = b then Ze d 83 42 [l0, l1, l2, l3, l4, l5, l6, l7, l8] st s else Ze d 83 75 [l0, l1, l2, l3, l4, l5, l6, l7, l8] st s := Ze_b (i := (.if_icmp .ne 36)) (len := 3) (by decide +kernel) rfl
theorem x83_42 : Ze d 83 42 [l0, l1, l2, l3, l4, l5, l6, aI z, l8] st s = Ze d 83 44 [l0, l1, l2, l3, l4, l5, l6, aI z, l8] (aI z :: st) s := Ze_n (i := (.iload 7)) (len := 2) (by decide +kernel) rfl
theorem x83_44 : Ze d 83 44 [aR r, l1, l2, l3, l4, l5, l6, l7, l8] st s = Ze d 83 45 [aR r, l1, l2, l3, l4, l5, l6, l7, l8] (aR r :: st) s := Ze_n (i := (.aload_n 0)) (len := 1) (by decide +kernel) rfl
theorem x83_45 (h : obC r = 2) : Ze d 83 45 [l0, l1, l2, l3, l4, l5, l6, l7, l8] (aR r :: st) s = Ze d 83 48 [l0, l1, l2, l3, l4, l5, l6, l7, l8] (aR (fcn r 0) :: st) s := Ze_gf (len := 3) (idx := 18) (by decide +kernel) rfl h rfl
theorem x83_48 (h : obC r = 12) : Ze d 83 48 [l0, l1, l2, l3, l4, l5, l6, l7, l8] (aR r :: st) s = Ze d 83 51 [l0, l1, l2, l3, l4, l5, l6, l7, l8] (aR (fcn r 2) :: st) s := Ze_gf (len := 3) (idx := 123) (by decide +kernel) rfl h rfl
theorem x83_51 : Ze d 83 51 [l0, l1, l2, l3, l4, l5, aI z, l7, l8] st s = Ze d 83 53 [l0, l1, l2, l3, l4, l5, aI z, l7, l8] (aI z :: st) s := Ze_n (i := (.iload 6)) (len := 2) (by decide +kernel) rfl
theorem x83_53 (h0 : 0 ≤ i) (h1 : i < aN1 r) : Ze d 83 53 [l0, l1, l2, l3, l4, l5, l6, l7, l8] (aI i :: aR r :: st) s = Ze d 83 54 [l0, l1, l2, l3, l4, l5, l6, l7, l8] (aI (s r i.toNat) :: st) s := Ze_n (i := .iaload) (len := 1) (by decide +kernel) (if_pos ⟨h0, h1⟩)
theorem x83_54 : Ze d 83 54 [l0, l1, l2, l3, l4, l5, l6, l7, l8] (aI b :: aI a :: st) s = Ze d 83 55 [l0, l1, l2, l3, l4, l5, l6, l7, l8] (aI (wrap (a * b)) :: st) s := Ze_n (i := .imul) (len := 1) (by decide +kernel) rfl
theorem x83_55 : Ze d 83 55 [l0, l1, l2, l3, l4, l5, l6, l7, l8] (aI z :: st) s = Ze d 83 57 [l0, l1, l2, l3, l4, l5, l6, aI z, l8] st s := Ze_n (i := (.istore 7)) (len := 2) (by decide +kernel) rfl
theorem x83_57 : Ze d 83 57 [aR r, l1, l2, l3, l4, l5, l6, l7, l8] st s = Ze d 83 58 [aR r, l1, l2, l3, l4, l5, l6, l7, l8] (aR r :: st) s := Ze_n (i := (.aload_n 0)) (len := 1) (by decide +kernel) rfl
theorem x83_58 (h : obC r = 2) : Ze d 83 58 [l0, l1, l2, l3, l4, l5, l6, l7, l8] (aR r :: st) s = Ze d 83 61 [l0, l1, l2, l3, l4, l5, l6, l7, l8] (aR (fcn r 0) :: st) s := Ze_gf (len := 3) (idx := 18) (by decide +kernel) rfl h rfl
theorem x83_61 (h : obC r = 12) : Ze d 83 61 [l0, l1, l2, l3, l4, l5, l6, l7, l8] (aR r :: st) s = Ze d 83 64 [l0, l1, l2, l3, l4, l5, l6, l7, l8] (aR (fcn r 1) :: st) s := Ze_gf (len := 3) (idx := 126) (by decide +kernel) rfl h rfl
theorem x83_64 : Ze d 83 64 [l0, l1, l2, l3, l4, l5, aI z, l7, l8] st s = Ze d 83 66 [l0, l1, l2, l3, l4, l5, aI z, l7, l8] (aI z :: st) s := Ze_n (i := (.iload 6)) (len := 2) (by decide +kernel) rfl
theorem x83_66 (h0 : 0 ≤ i) (h1 : i < aN1 r) : Ze d 83 66 [l0, l1, l2, l3, l4, l5, l6, l7, l8] (aI i :: aR r :: st) s = Ze d 83 67 [l0, l1, l2, l3, l4, l5, l6, l7, l8] (aI (s r i.toNat) :: st) s := Ze_n (i := .iaload) (len := 1) (by decide +kernel) (if_pos ⟨h0, h1⟩)
theorem x83_67 : Ze d 83 67 [l0, l1, l2, l3, l4, l5, l6, l7, l8] (aI z :: st) s = Ze d 83 69 [l0, l1, l2, l3, l4, l5, aI z, l7, l8] st s := Ze_n (i := (.istore 6)) (len := 2) (by decide +kernel) rfl
theorem x83_69 : Ze d 83 69 [l0, l1, l2, l3, l4, l5, l6, l7, aI z] st s = Ze d 83 72 [l0, l1, l2, l3, l4, l5, l6, l7, aI (wrap (z + 1))] st s := Ze_n (i := (.iinc 8 1)) (len := 3) (by decide +kernel) rfl
theorem x83_72 : Ze d 83 72 [l0, l1, l2, l3, l4, l5, l6, l7, l8] st s = Ze d 83 16 [l0, l1, l2, l3, l4, l5, l6, l7, l8] st s := Ze_n (i := (.goto (-56))) (len := 3) (by decide +kernel) rfl
theorem x83_75 : Ze d 83 75 [l0, l1, l2, l3, l4, l5, l6, l7, l8] st s = Ze d 83 76 [l0, l1, l2, l3, l4, l5, l6, l7, l8] (aI 0 :: st) s := Ze_n (i := (.iconst 0)) (len := 1) (by decide +kernel) rfl
theorem x83_76 : Ze d 83 76 [l0, l1, l2, l3, l4, l5, l6, l7, l8] (aI z :: st) s = Ze d 83 78 [l0, l1, l2, l3, l4, l5, l6, l7, aI z] st s := Ze_n (i := (.istore 8)) (len := 2) (by decide +kernel) rfl
theorem x83_78 : Ze d 83 78 [l0, l1, l2, l3, l4, l5, l6, l7, aI z] st s = Ze d 83 80 [l0, l1, l2, l3, l4, l5, l6, l7, aI z] (aI z :: st) s := Ze_n (i := (.iload 8)) (len := 2) (by decide +kernel) rfl
theorem x83_80 : Ze d 83 80 [l0, l1, l2, l3, l4, l5, l6, aI z, l8] st s = Ze d 83 82 [l0, l1, l2, l3, l4, l5, l6, aI z, l8] (aI z :: st) s := Ze_n (i := (.iload 7)) (len := 2) (by decide +kernel) rfl
theorem x83_82 : Ze d 83 82 [l0, l1, l2, l3, l4, l5, l6, l7, l8] (aI b :: aI a :: st) s = if a < b then Ze d 83 85 [l0, l1, l2, l3, l4, l5, l6, l7, l8] st s else Ze d 83 148 [l0, l1, l2, l3, l4, l5, l6, l7, l8] st s := Ze_b (i := (.if_icmp .ge 66)) (len := 3) (by decide +kernel) rfl
theorem x83_85 : Ze d 83 85 [aR r, l1, l2, l3, l4, l5, l6, l7, l8] st s = Ze d 83 86 [aR r, l1, l2, l3, l4, l5, l6, l7, l8] (aR r :: st) s := Ze_n (i := (.aload_n 0)) (len := 1) (by decide +kernel) rfl
theorem x83_86 (h : obC r = 2) : Ze d 83 86 [l0, l1, l2, l3, l4, l5, l6, l7, l8] (aR r :: st) s = Ze d 83 89 [l0, l1, l2, l3, l4, l5, l6, l7, l8] (aR (fcn r 0) :: st) s := Ze_gf (len := 3) (idx := 18) (by decide +kernel) rfl h rfl
theorem x83_89 (h : obC r = 12) : Ze d 83 89 [l0, l1, l2, l3, l4, l5, l6, l7, l8] (aR r :: st) s = Ze d 83 92 [l0, l1, l2, l3, l4, l5, l6, l7, l8] (aR (fcn r 0) :: st) s := Ze_gf (len := 3) (idx := 120) (by decide +kernel) rfl h rfl
theorem x83_92 : Ze d 83 92 [l0, l1, l2, l3, l4, l5, aI z, l7, l8] st s = Ze d 83 94 [l0, l1, l2, l3, l4, l5, aI z, l7, l8] (aI z :: st) s := Ze_n (i := (.iload 6)) (len := 2) (by decide +kernel) rfl
theorem x83_94 (h0 : 0 ≤ i) (h1 : i < aN1 r) : Ze d 83 94 [l0, l1, l2, l3, l4, l5, l6, l7, l8] (aI i :: aR r :: st) s = Ze d 83 95 [l0, l1, l2, l3, l4, l5, l6, l7, l8] (aI (s r i.toNat) :: st) s := Ze_n (i := .iaload) (len := 1) (by decide +kernel) (if_pos ⟨h0, h1⟩)
theorem x83_95 : Ze d 83 95 [l0, l1, l2, l3, l4, l5, l6, l7, l8] (aI a :: st) s = if a = 0 then Ze d 83 98 [l0, l1, l2, l3, l4, l5, l6, l7, l8] st s else Ze d 83 122 [l0, l1, l2, l3, l4, l5, l6, l7, l8] st s := Ze_b (i := (.ifCond .ne 27)) (len := 3) (by decide +kernel) rfl
theorem x83_98 : Ze d 83 98 [aR r, l1, l2, l3, l4, l5, l6, l7, l8] st s = Ze d 83 99 [aR r, l1, l2, l3, l4, l5, l6, l7, l8] (aR r :: st) s := Ze_n (i := (.aload_n 0)) (len := 1) (by decide +kernel) rfl
theorem x83_99 (h : obC r = 2) (h2 : 0 ≤ s r 5) : Ze d 83 99 [l0, l1, l2, l3, l4, l5, l6, l7, l8] (aR r :: st) s = Ze d 83 102 [l0, l1, l2, l3, l4, l5, l6, l7, l8] (aR (s r 5).toNat :: st) s := Ze_gf (len := 3) (idx := 36) (by decide +kernel) rfl h (fldV_dyn rfl h2)
theorem x83_102 : Ze d 83 102 [l0, aI z, l2, l3, l4, l5, l6, l7, l8] st s = Ze d 83 103 [l0, aI z, l2, l3, l4, l5, l6, l7, l8] (aI z :: st) s := Ze_n (i := (.iload_n 1)) (len := 1) (by decide +kernel) rfl
theorem x83_103 : Ze d 83 103 [l0, l1, aI z, l3, l4, l5, l6, l7, l8] st s = Ze d 83 104 [l0, l1, aI z, l3, l4, l5, l6, l7, l8] (aI z :: st) s := Ze_n (i := (.iload_n 2)) (len := 1) (by decide +kernel) rfl
theorem x83_104 : Ze d 83 104 [aR r, l1, l2, l3, l4, l5, l6, l7, l8] st s = Ze d 83 105 [aR r, l1, l2, l3, l4, l5, l6, l7, l8] (aR r :: st) s := Ze_n (i := (.aload_n 0)) (len := 1) (by decide +kernel) rfl
theorem x83_105 (h : obC r = 2) : Ze d 83 105 [l0, l1, l2, l3, l4, l5, l6, l7, l8] (aR r :: st) s = Ze d 83 108 [l0, l1, l2, l3, l4, l5, l6, l7, l8] (aR (fcn r 0) :: st) s := Ze_gf (len := 3) (idx := 18) (by decide +kernel) rfl h rfl
theorem x83_108 (h : obC r = 12) : Ze d 83 108 [l0, l1, l2, l3, l4, l5, l6, l7, l8] (aR r :: st) s = Ze d 83 111 [l0, l1, l2, l3, l4, l5, l6, l7, l8] (aR (fcn r 1) :: st) s := Ze_gf (len := 3) (idx := 126) (by decide +kernel) rfl h rfl
theorem x83_111 : Ze d 83 111 [l0, l1, l2, l3, l4, l5, aI z, l7, l8] st s = Ze d 83 113 [l0, l1, l2, l3, l4, l5, aI z, l7, l8] (aI z :: st) s := Ze_n (i := (.iload 6)) (len := 2) (by decide +kernel) rfl
theorem x83_113 (h0 : 0 ≤ i) (h1 : i < aN1 r) : Ze d 83 113 [l0, l1, l2, l3, l4, l5, l6, l7, l8] (aI i :: aR r :: st) s = Ze d 83 114 [l0, l1, l2, l3, l4, l5, l6, l7, l8] (aI (s r i.toNat) :: st) s := Ze_n (i := .iaload) (len := 1) (by decide +kernel) (if_pos ⟨h0, h1⟩)
theorem x83_114 : Ze d 83 114 [l0, l1, l2, l3, aI z, l5, l6, l7, l8] st s = Ze d 83 116 [l0, l1, l2, l3, aI z, l5, l6, l7, l8] (aI z :: st) s := Ze_n (i := (.iload 4)) (len := 2) (by decide +kernel) rfl
theorem x83_116 (h : obC r = 8) (h6 : st.length ≤ 4) : Ze d 83 116 [l0, l1, l2, l3, l4, l5, l6, l7, l8] (aI a4 :: aI a3 :: aI a2 :: aI a1 :: aR r :: st) s = zcV (Zc d 143 [aR r, aI a1, aI a2, aI a3, aI a4] s) d 83 119 [l0, l1, l2, l3, l4, l5, l6, l7, l8] st := Ze_cvV (idx := 115) (len := 3) (as := [aI a1, aI a2, aI a3, aI a4]) (by decide +kernel) rfl (by decide +kernel) rfl h h6
theorem x83_119 : Ze d 83 119 [l0, l1, l2, l3, l4, l5, l6, l7, l8] st s = Ze d 83 142 [l0, l1, l2, l3, l4, l5, l6, l7, l8] st s := Ze_n (i := (.goto 23)) (len := 3) (by decide +kernel) rfl
theorem x83_122 : Ze d 83 122 [aR r, l1, l2, l3, l4, l5, l6, l7, l8] st s = Ze d 83 123 [aR r, l1, l2, l3, l4, l5, l6, l7, l8] (aR r :: st) s := Ze_n (i := (.aload_n 0)) (len := 1) (by decide +kernel) rfl
theorem x83_123 : Ze d 83 123 [l0, aI z, l2, l3, l4, l5, l6, l7, l8] st s = Ze d 83 124 [l0, aI z, l2, l3, l4, l5, l6, l7, l8] (aI z :: st) s := Ze_n (i := (.iload_n 1)) (len := 1) (by decide +kernel) rfl
theorem x83_124 : Ze d 83 124 [l0, l1, aI z, l3, l4, l5, l6, l7, l8] st s = Ze d 83 125 [l0, l1, aI z, l3, l4, l5, l6, l7, l8] (aI z :: st) s := Ze_n (i := (.iload_n 2)) (len := 1) (by decide +kernel) rfl
theorem x83_125 : Ze d 83 125 [aR r, l1, l2, l3, l4, l5, l6, l7, l8] st s = Ze d 83 126 [aR r, l1, l2, l3, l4, l5, l6, l7, l8] (aR r :: st) s := Ze_n (i := (.aload_n 0)) (len := 1) (by decide +kernel) rfl
theorem x83_126 (h : obC r = 2) : Ze d 83 126 [l0, l1, l2, l3, l4, l5, l6, l7, l8] (aR r :: st) s = Ze d 83 129 [l0, l1, l2, l3, l4, l5, l6, l7, l8] (aR (fcn r 0) :: st) s := Ze_gf (len := 3) (idx := 18) (by decide +kernel) rfl h rfl
theorem x83_129 (h : obC r = 12) : Ze d 83 129 [l0, l1, l2, l3, l4, l5, l6, l7, l8] (aR r :: st) s = Ze d 83 132 [l0, l1, l2, l3, l4, l5, l6, l7, l8] (aR (fcn r 1) :: st) s := Ze_gf (len := 3) (idx := 126) (by decide +kernel) rfl h rfl
theorem x83_132 : Ze d 83 132 [l0, l1, l2, l3, l4, l5, aI z, l7, l8] st s = Ze d 83 134 [l0, l1, l2, l3, l4, l5, aI z, l7, l8] (aI z :: st) s := Ze_n (i := (.iload 6)) (len := 2) (by decide +kernel) rfl
theorem x83_134 (h0 : 0 ≤ i) (h1 : i < aN1 r) : Ze d 83 134 [l0, l1, l2, l3, l4, l5, l6, l7, l8] (aI i :: aR r :: st) s = Ze d 83 135 [l0, l1, l2, l3, l4, l5, l6, l7, l8] (aI (s r i.toNat) :: st) s := Ze_n (i := .iaload) (len := 1) (by decide +kernel) (if_pos ⟨h0, h1⟩)
theorem x83_135 : Ze d 83 135 [l0, l1, l2, l3, aI z, l5, l6, l7, l8] st s = Ze d 83 137 [l0, l1, l2, l3, aI z, l5, l6, l7, l8] (aI z :: st) s := Ze_n (i := (.iload 4)) (len := 2) (by decide +kernel) rfl
theorem x83_137 : Ze d 83 137 [l0, l1, l2, l3, l4, aI z, l6, l7, l8] st s = Ze d 83 139 [l0, l1, l2, l3, l4, aI z, l6, l7, l8] (aI z :: st) s := Ze_n (i := (.iload 5)) (len := 2) (by decide +kernel) rfl
theorem x83_139 (h : obC r = 2) (h6 : st.length ≤ 4) : Ze d 83 139 [l0, l1, l2, l3, l4, l5, l6, l7, l8] (aI a5 :: aI a4 :: aI a3 :: aI a2 :: aI a1 :: aR r :: st) s = zcV (Zc d 84 [aR r, aI a1, aI a2, aI a3, aI a4, aI a5] s) d 83 142 [l0, l1, l2, l3, l4, l5, l6, l7, l8] st := Ze_cvV (idx := 129) (len := 3) (as := [aI a1, aI a2, aI a3, aI a4, aI a5]) (by decide +kernel) rfl (by decide +kernel) rfl h h6
theorem x83_142 : Ze d 83 142 [l0, l1, l2, l3, l4, l5, l6, l7, aI z] st s = Ze d 83 145 [l0, l1, l2, l3, l4, l5, l6, l7, aI (wrap (z + 1))] st s := Ze_n (i := (.iinc 8 1)) (len := 3) (by decide +kernel) rfl
theorem x83_145 : Ze d 83 145 [l0, l1, l2, l3, l4, l5, l6, l7, l8] st s = Ze d 83 78 [l0, l1, l2, l3, l4, l5, l6, l7, l8] st s := Ze_n (i := (.goto (-67))) (len := 3) (by decide +kernel) rfl
theorem x83_148 : Ze d 83 148 [l0, l1, l2, l3, l4, l5, l6, l7, l8] [] s = rV s := Ze_v (by decide +kernel) rfl
theorem en83 : Zc (d + 1) 83 [aR r, aI a1, aI a2, aI a3, aI a4, aI a5] s = Ze d 83 0 [aR r, aI a1, aI a2, aI a3, aI a4, aI a5, aU, aU, aU] [] s := rfl
theorem x84_0 : Ze d 84 0 [l0, l1, l2, aI z, l4, l5, l6, l7] st s = Ze d 84 1 [l0, l1, l2, aI z, l4, l5, l6, l7] (aI z :: st) s := Ze_n (i := (.iload_n 3)) (len := 1) (by decide +kernel) rfl
theorem x84_1 : Ze d 84 1 [l0, l1, l2, l3, l4, l5, l6, l7] (aI z :: st) s = Ze d 84 3 [l0, l1, l2, l3, l4, l5, aI z, l7] st s := Ze_n (i := (.istore 6)) (len := 2) (by decide +kernel) rfl
theorem x84_3 : Ze d 84 3 [l0, l1, l2, l3, l4, l5, l6, l7] st s = Ze d 84 4 [l0, l1, l2, l3, l4, l5, l6, l7] (aI 0 :: st) s := Ze_n (i := (.iconst 0)) (len := 1) (by decide +kernel) rfl
theorem x84_4 : Ze d 84 4 [l0, l1, l2, l3, l4, l5, l6, l7] (aI z :: st) s = Ze d 84 6 [l0, l1, l2, l3, l4, l5, l6, aI z] st s := Ze_n (i := (.istore 7)) (len := 2) (by decide +kernel) rfl
theorem x84_6 : Ze d 84 6 [l0, l1, l2, l3, l4, l5, l6, aI z] st s = Ze d 84 8 [l0, l1, l2, l3, l4, l5, l6, aI z] (aI z :: st) s := Ze_n (i := (.iload 7)) (len := 2) (by decide +kernel) rfl
theorem x84_8 : Ze d 84 8 [aR r, l1, l2, l3, l4, l5, l6, l7] st s = Ze d 84 9 [aR r, l1, l2, l3, l4, l5, l6, l7] (aR r :: st) s := Ze_n (i := (.aload_n 0)) (len := 1) (by decide +kernel) rfl
theorem x84_9 (h : obC r = 2) : Ze d 84 9 [l0, l1, l2, l3, l4, l5, l6, l7] (aR r :: st) s = Ze d 84 12 [l0, l1, l2, l3, l4, l5, l6, l7] (aR (fcn r 0) :: st) s := Ze_gf (len := 3) (idx := 18) (by decide +kernel) rfl h rfl
theorem x84_12 (h : obC r = 12) : Ze d 84 12 [l0, l1, l2, l3, l4, l5, l6, l7] (aR r :: st) s = Ze d 84 15 [l0, l1, l2, l3, l4, l5, l6, l7] (aI (s r 10) :: st) s := Ze_gf (len := 3) (idx := 132) (by decide +kernel) rfl h rfl
theorem x84_15 : Ze d 84 15 [l0, l1, l2, l3, l4, l5, l6, l7] (aI b :: aI a :: st) s = if a < b then Ze d 84 18 [l0, l1, l2, l3, l4, l5, l6, l7] st s else Ze d 84 82 [l0, l1, l2, l3, l4, l5, l6, l7] st s := Ze_b (i := (.if_icmp .ge 67)) (len := 3) (by decide +kernel) rfl
theorem x84_18 : Ze d 84 18 [l0, l1, l2, l3, l4, l5, aI z, l7] st s = Ze d 84 20 [l0, l1, l2, l3, l4, l5, aI z, l7] (aI z :: st) s := Ze_n (i := (.iload 6)) (len := 2) (by decide +kernel) rfl
theorem x84_20 : Ze d 84 20 [l0, l1, l2, l3, l4, l5, l6, l7] st s = Ze d 84 21 [l0, l1, l2, l3, l4, l5, l6, l7] (aI (-1) :: st) s := Ze_n (i := (.iconst (-1))) (len := 1) (by decide +kernel) rfl
theorem x84_21 : Ze d 84 21 [l0, l1, l2, l3, l4, l5, l6, l7] (aI b :: aI a :: st) s = if a = b then Ze d 84 82 [l0, l1, l2, l3, l4, l5, l6, l7] st s else Ze d 84 24 [l0, l1, l2, l3, l4, l5, l6, l7] st s := Ze_b (i := (.if_icmp .eq 61)) (len := 3) (by decide +kernel) rfl
theorem x84_24 : Ze d 84 24 [aR r, l1, l2, l3, l4, l5, l6, l7] st s = Ze d 84 25 [aR r, l1, l2, l3, l4, l5, l6, l7] (aR r :: st) s := Ze_n (i := (.aload_n 0)) (len := 1) (by decide +kernel) rfl
theorem x84_25 : Ze d 84 25 [l0, aI z, l2, l3, l4, l5, l6, l7] st s = Ze d 84 26 [l0, aI z, l2, l3, l4, l5, l6, l7] (aI z :: st) s := Ze_n (i := (.iload_n 1)) (len := 1) (by decide +kernel) rfl
theorem x84_26 : Ze d 84 26 [l0, l1, aI z, l3, l4, l5, l6, l7] st s = Ze d 84 27 [l0, l1, aI z, l3, l4, l5, l6, l7] (aI z :: st) s := Ze_n (i := (.iload_n 2)) (len := 1) (by decide +kernel) rfl
theorem x84_27 : Ze d 84 27 [aR r, l1, l2, l3, l4, l5, l6, l7] st s = Ze d 84 28 [aR r, l1, l2, l3, l4, l5, l6, l7] (aR r :: st) s := Ze_n (i := (.aload_n 0)) (len := 1) (by decide +kernel) rfl
theorem x84_28 (h : obC r = 2) : Ze d 84 28 [l0, l1, l2, l3, l4, l5, l6, l7] (aR r :: st) s = Ze d 84 31 [l0, l1, l2, l3, l4, l5, l6, l7] (aR (fcn r 0) :: st) s := Ze_gf (len := 3) (idx := 18) (by decide +kernel) rfl h rfl
theorem x84_31 (h : obC r = 12) : Ze d 84 31 [l0, l1, l2, l3, l4, l5, l6, l7] (aR r :: st) s = Ze d 84 34 [l0, l1, l2, l3, l4, l5, l6, l7] (aR (fcn r 7) :: st) s := Ze_gf (len := 3) (idx := 135) (by decide +kernel) rfl h rfl
theorem x84_34 : Ze d 84 34 [l0, l1, l2, l3, l4, l5, aI z, l7] st s = Ze d 84 36 [l0, l1, l2, l3, l4, l5, aI z, l7] (aI z :: st) s := Ze_n (i := (.iload 6)) (len := 2) (by decide +kernel) rfl
theorem x84_36 (h0 : 0 ≤ i) (h1 : i < aN1 r) : Ze d 84 36 [l0, l1, l2, l3, l4, l5, l6, l7] (aI i :: aR r :: st) s = Ze d 84 37 [l0, l1, l2, l3, l4, l5, l6, l7] (aI (s r i.toNat) :: st) s := Ze_n (i := .iaload) (len := 1) (by decide +kernel) (if_pos ⟨h0, h1⟩)
theorem x84_37 : Ze d 84 37 [l0, l1, l2, l3, aI z, l5, l6, l7] st s = Ze d 84 39 [l0, l1, l2, l3, aI z, l5, l6, l7] (aI z :: st) s := Ze_n (i := (.iload 4)) (len := 2) (by decide +kernel) rfl
theorem x84_39 : Ze d 84 39 [aR r, l1, l2, l3, l4, l5, l6, l7] st s = Ze d 84 40 [aR r, l1, l2, l3, l4, l5, l6, l7] (aR r :: st) s := Ze_n (i := (.aload_n 0)) (len := 1) (by decide +kernel) rfl
theorem x84_40 (h : obC r = 2) : Ze d 84 40 [l0, l1, l2, l3, l4, l5, l6, l7] (aR r :: st) s = Ze d 84 43 [l0, l1, l2, l3, l4, l5, l6, l7] (aR (fcn r 0) :: st) s := Ze_gf (len := 3) (idx := 18) (by decide +kernel) rfl h rfl
theorem x84_43 (h : obC r = 12) : Ze d 84 43 [l0, l1, l2, l3, l4, l5, l6, l7] (aR r :: st) s = Ze d 84 46 [l0, l1, l2, l3, l4, l5, l6, l7] (aR (fcn r 6) :: st) s := Ze_gf (len := 3) (idx := 138) (by decide +kernel) rfl h rfl
theorem x84_46 : Ze d 84 46 [l0, l1, l2, l3, l4, l5, aI z, l7] st s = Ze d 84 48 [l0, l1, l2, l3, l4, l5, aI z, l7] (aI z :: st) s := Ze_n (i := (.iload 6)) (len := 2) (by decide +kernel) rfl
theorem x84_48 (h0 : 0 ≤ i) (h1 : i < aN2 r) : Ze d 84 48 [l0, l1, l2, l3, l4, l5, l6, l7] (aI i :: aR r :: st) s = Ze d 84 49 [l0, l1, l2, l3, l4, l5, l6, l7] (aI (s r i.toNat) :: st) s := Ze_n (i := .baload) (len := 1) (by decide +kernel) (if_pos ⟨h0, h1⟩)
theorem x84_49 : Ze d 84 49 [l0, l1, l2, l3, l4, l5, l6, l7] (aI b :: aI a :: st) s = if a = b then Ze d 84 56 [l0, l1, l2, l3, l4, l5, l6, l7] st s else Ze d 84 52 [l0, l1, l2, l3, l4, l5, l6, l7] st s := Ze_b (i := (.if_icmp .eq 7)) (len := 3) (by decide +kernel) rfl
theorem x84_52 : Ze d 84 52 [l0, l1, l2, l3, l4, l5, l6, l7] st s = Ze d 84 53 [l0, l1, l2, l3, l4, l5, l6, l7] (aI 1 :: st) s := Ze_n (i := (.iconst 1)) (len := 1) (by decide +kernel) rfl
theorem x84_53 : Ze d 84 53 [l0, l1, l2, l3, l4, l5, l6, l7] st s = Ze d 84 57 [l0, l1, l2, l3, l4, l5, l6, l7] st s := Ze_n (i := (.goto 4)) (len := 3) (by decide +kernel) rfl
theorem x84_56 : Ze d 84 56 [l0, l1, l2, l3, l4, l5, l6, l7] st s = Ze d 84 57 [l0, l1, l2, l3, l4, l5, l6, l7] (aI 0 :: st) s := Ze_n (i := (.iconst 0)) (len := 1) (by decide +kernel) rfl
theorem x84_57 : Ze d 84 57 [l0, l1, l2, l3, l4, aI z, l6, l7] st s = Ze d 84 59 [l0, l1, l2, l3, l4, aI z, l6, l7] (aI z :: st) s := Ze_n (i := (.iload 5)) (len := 2) (by decide +kernel) rfl
theorem x84_59 : Ze d 84 59 [l0, l1, l2, l3, l4, l5, l6, l7] st s = Ze d 84 60 [l0, l1, l2, l3, l4, l5, l6, l7] (aI 1 :: st) s := Ze_n (i := (.iconst 1)) (len := 1) (by decide +kernel) rfl
theorem x84_60 : Ze d 84 60 [l0, l1, l2, l3, l4, l5, l6, l7] (aI b :: aI a :: st) s = Ze d 84 61 [l0, l1, l2, l3, l4, l5, l6, l7] (aI (wrap (a + b)) :: st) s := Ze_n (i := .iadd) (len := 1) (by decide +kernel) rfl
theorem x84_61 (h : obC r = 2) (h6 : st.length ≤ 4) : Ze d 84 61 [l0, l1, l2, l3, l4, l5, l6, l7] (aI a5 :: aI a4 :: aI a3 :: aI a2 :: aI a1 :: aR r :: st) s = zcV (Zc d 83 [aR r, aI a1, aI a2, aI a3, aI a4, aI a5] s) d 84 64 [l0, l1, l2, l3, l4, l5, l6, l7] st := Ze_cvV (idx := 111) (len := 3) (as := [aI a1, aI a2, aI a3, aI a4, aI a5]) (by decide +kernel) rfl (by decide +kernel) rfl h h6
theorem x84_64 : Ze d 84 64 [aR r, l1, l2, l3, l4, l5, l6, l7] st s = Ze d 84 65 [aR r, l1, l2, l3, l4, l5, l6, l7] (aR r :: st) s := Ze_n (i := (.aload_n 0)) (len := 1) (by decide +kernel) rfl
theorem x84_65 (h : obC r = 2) : Ze d 84 65 [l0, l1, l2, l3, l4, l5, l6, l7] (aR r :: st) s = Ze d 84 68 [l0, l1, l2, l3, l4, l5, l6, l7] (aR (fcn r 0) :: st) s := Ze_gf (len := 3) (idx := 18) (by decide +kernel) rfl h rfl
theorem x84_68 (h : obC r = 12) : Ze d 84 68 [l0, l1, l2, l3, l4, l5, l6, l7] (aR r :: st) s = Ze d 84 71 [l0, l1, l2, l3, l4, l5, l6, l7] (aR (fcn r 9) :: st) s := Ze_gf (len := 3) (idx := 142) (by decide +kernel) rfl h rfl
theorem x84_71 : Ze d 84 71 [l0, l1, l2, l3, l4, l5, aI z, l7] st s = Ze d 84 73 [l0, l1, l2, l3, l4, l5, aI z, l7] (aI z :: st) s := Ze_n (i := (.iload 6)) (len := 2) (by decide +kernel) rfl
theorem x84_73 (h0 : 0 ≤ i) (h1 : i < aN1 r) : Ze d 84 73 [l0, l1, l2, l3, l4, l5, l6, l7] (aI i :: aR r :: st) s = Ze d 84 74 [l0, l1, l2, l3, l4, l5, l6, l7] (aI (s r i.toNat) :: st) s := Ze_n (i := .iaload) (len := 1) (by decide +kernel) (if_pos ⟨h0, h1⟩)
theorem x84_74 : Ze d 84 74 [l0, l1, l2, l3, l4, l5, l6, l7] (aI z :: st) s = Ze d 84 76 [l0, l1, l2, l3, l4, l5, aI z, l7] st s := Ze_n (i := (.istore 6)) (len := 2) (by decide +kernel) rfl
theorem x84_76 : Ze d 84 76 [l0, l1, l2, l3, l4, l5, l6, aI z] st s = Ze d 84 79 [l0, l1, l2, l3, l4, l5, l6, aI (wrap (z + 1))] st s := Ze_n (i := (.iinc 7 1)) (len := 3) (by decide +kernel) rfl
theorem x84_79 : Ze d 84 79 [l0, l1, l2, l3, l4, l5, l6, l7] st s = Ze d 84 6 [l0, l1, l2, l3, l4, l5, l6, l7] st s := Ze_n (i := (.goto (-73))) (len := 3) (by decide +kernel) rfl
theorem x84_82 : Ze d 84 82 [l0, l1, l2, l3, l4, l5, l6, l7] [] s = rV s := Ze_v (by decide +kernel) rfl
theorem en84 : Zc (d + 1) 84 [aR r, aI a1, aI a2, aI a3, aI a4, aI a5] s = Ze d 84 0 [aR r, aI a1, aI a2, aI a3, aI a4, aI a5, aU, aU] [] s := rfl
theorem x87_0 : Ze d 87 0 [aR r, l1, l2] st s = Ze d 87 1 [aR r, l1, l2] (aR r :: st) s := Ze_n (i := (.aload_n 0)) (len := 1) (by decide +kernel) rfl
theorem x87_1 : Ze d 87 1 [l0, aI z, l2] st s = Ze d 87 2 [l0, aI z, l2] (aI z :: st) s := Ze_n (i := (.iload_n 1)) (len := 1) (by decide +kernel) rfl
theorem x87_2 (h : obC r = 2) (h6 : st.length ≤ 4) : Ze d 87 2 [l0, l1, l2] (aI a1 :: aR r :: st) s = zcI (Zc d 89 [aR r, aI a1] s) d 87 5 [l0, l1, l2] st := Ze_cvI (idx := 153) (len := 3) (as := [aI a1]) (by decide +kernel) rfl (by decide +kernel) rfl h h6
theorem x87_5 : Ze d 87 5 [l0, l1, l2] (aI a :: st) s = if a = 0 then Ze d 87 8 [l0, l1, l2] st s else Ze d 87 10 [l0, l1, l2] st s := Ze_b (i := (.ifCond .ne 5)) (len := 3) (by decide +kernel) rfl
theorem x87_8 : Ze d 87 8 [l0, l1, l2] st s = Ze d 87 9 [l0, l1, l2] (aI 0 :: st) s := Ze_n (i := (.iconst 0)) (len := 1) (by decide +kernel) rfl
theorem x87_9 (h : z = 0 ∨ z = 1) : Ze d 87 9 [l0, l1, l2] [aI z] s = rI z s := Ze_i2 (by decide +kernel) rfl h
theorem x87_10 : Ze d 87 10 [aR r, l1, l2] st s = Ze d 87 11 [aR r, l1, l2] (aR r :: st) s := Ze_n (i := (.aload_n 0)) (len := 1) (by decide +kernel) rfl
theorem x87_11 (h : obC r = 2) (h2 : 0 ≤ s r 6) : Ze d 87 11 [l0, l1, l2] (aR r :: st) s = Ze d 87 14 [l0, l1, l2] (aR (s r 6).toNat :: st) s := Ze_gf (len := 3) (idx := 41) (by decide +kernel) rfl h (fldV_dyn rfl h2)
theorem x87_14 (h : obC r = 6) : Ze d 87 14 [l0, l1, l2] (aR r :: st) s = Ze d 87 17 [l0, l1, l2] (aR (fcn r 0) :: st) s := Ze_gf (len := 3) (idx := 150) (by decide +kernel) rfl h rfl
theorem x87_17 : Ze d 87 17 [l0, l1, aI z] st s = Ze d 87 18 [l0, l1, aI z] (aI z :: st) s := Ze_n (i := (.iload_n 2)) (len := 1) (by decide +kernel) rfl
theorem x87_18 (h0 : 0 ≤ i) (h1 : i < aN1 r) : Ze d 87 18 [l0, l1, l2] (aI i :: aR r :: st) s = Ze d 87 19 [l0, l1, l2] (aI (s r i.toNat) :: st) s := Ze_n (i := .iaload) (len := 1) (by decide +kernel) (if_pos ⟨h0, h1⟩)
theorem x87_19 : Ze d 87 19 [l0, l1, l2] st s = Ze d 87 20 [l0, l1, l2] (aI 4 :: st) s := Ze_n (i := (.iconst 4)) (len := 1) (by decide +kernel) rfl
theorem x87_20 : Ze d 87 20 [l0, l1, l2] (aI b :: aI a :: st) s = if a = b then Ze d 87 45 [l0, l1, l2] st s else Ze d 87 23 [l0, l1, l2] st s := Ze_b (i := (.if_icmp .eq 25)) (len := 3) (by decide +kernel) rfl
theorem x87_23 : Ze d 87 23 [aR r, l1, l2] st s = Ze d 87 24 [aR r, l1, l2] (aR r :: st) s := Ze_n (i := (.aload_n 0)) (len := 1) (by decide +kernel) rfl
theorem x87_24 : Ze d 87 24 [l0, aI z, l2] st s = Ze d 87 25 [l0, aI z, l2] (aI z :: st) s := Ze_n (i := (.iload_n 1)) (len := 1) (by decide +kernel) rfl
theorem x87_25 (h : obC r = 2) (h6 : st.length ≤ 4) : Ze d 87 25 [l0, l1, l2] (aI a1 :: aR r :: st) s = zcI (Zc d 86 [aR r, aI a1] s) d 87 28 [l0, l1, l2] st := Ze_cvI (idx := 156) (len := 3) (as := [aI a1]) (by decide +kernel) rfl (by decide +kernel) rfl h h6
theorem x87_28 : Ze d 87 28 [l0, l1, l2] (aI a :: st) s = if a = 0 then Ze d 87 43 [l0, l1, l2] st s else Ze d 87 31 [l0, l1, l2] st s := Ze_b (i := (.ifCond .eq 15)) (len := 3) (by decide +kernel) rfl
theorem x87_31 : Ze d 87 31 [aR r, l1, l2] st s = Ze d 87 32 [aR r, l1, l2] (aR r :: st) s := Ze_n (i := (.aload_n 0)) (len := 1) (by decide +kernel) rfl
theorem x87_32 : Ze d 87 32 [l0, l1, aI z] st s = Ze d 87 33 [l0, l1, aI z] (aI z :: st) s := Ze_n (i := (.iload_n 2)) (len := 1) (by decide +kernel) rfl
theorem x87_33 (h : obC r = 2) (h6 : st.length ≤ 4) : Ze d 87 33 [l0, l1, l2] (aI a1 :: aR r :: st) s = zcI (Zc d 85 [aR r, aI a1] s) d 87 36 [l0, l1, l2] st := Ze_cvI (idx := 90) (len := 3) (as := [aI a1]) (by decide +kernel) rfl (by decide +kernel) rfl h h6
theorem x87_36 : Ze d 87 36 [l0, l1, l2] (aI a :: st) s = if a = 0 then Ze d 87 43 [l0, l1, l2] st s else Ze d 87 39 [l0, l1, l2] st s := Ze_b (i := (.ifCond .eq 7)) (len := 3) (by decide +kernel) rfl
theorem x87_39 : Ze d 87 39 [l0, l1, l2] st s = Ze d 87 40 [l0, l1, l2] (aI 1 :: st) s := Ze_n (i := (.iconst 1)) (len := 1) (by decide +kernel) rfl
theorem x87_40 : Ze d 87 40 [l0, l1, l2] st s = Ze d 87 44 [l0, l1, l2] st s := Ze_n (i := (.goto 4)) (len := 3) (by decide +kernel) rfl
theorem x87_43 : Ze d 87 43 [l0, l1, l2] st s = Ze d 87 44 [l0, l1, l2] (aI 0 :: st) s := Ze_n (i := (.iconst 0)) (len := 1) (by decide +kernel) rfl
theorem x87_44 (h : z = 0 ∨ z = 1) : Ze d 87 44 [l0, l1, l2] [aI z] s = rI z s := Ze_i2 (by decide +kernel) rfl h
theorem x87_45 : Ze d 87 45 [aR r, l1, l2] st s = Ze d 87 46 [aR r, l1, l2] (aR r :: st) s := Ze_n (i := (.aload_n 0)) (len := 1) (by decide +kernel) rfl
theorem x87_46 : Ze d 87 46 [l0, l1, aI z] st s = Ze d 87 47 [l0, l1, aI z] (aI z :: st) s := Ze_n (i := (.iload_n 2)) (len := 1) (by decide +kernel) rfl
theorem x87_47 (h : obC r = 2) (h6 : st.length ≤ 4) : Ze d 87 47 [l0, l1, l2] (aI a1 :: aR r :: st) s = zcI (Zc d 89 [aR r, aI a1] s) d 87 50 [l0, l1, l2] st := Ze_cvI (idx := 153) (len := 3) (as := [aI a1]) (by decide +kernel) rfl (by decide +kernel) rfl h h6
theorem x87_50 : Ze d 87 50 [l0, l1, l2] (aI a :: st) s = if a = 0 then Ze d 87 85 [l0, l1, l2] st s else Ze d 87 53 [l0, l1, l2] st s := Ze_b (i := (.ifCond .eq 35)) (len := 3) (by decide +kernel) rfl
theorem x87_53 : Ze d 87 53 [aR r, l1, l2] st s = Ze d 87 54 [aR r, l1, l2] (aR r :: st) s := Ze_n (i := (.aload_n 0)) (len := 1) (by decide +kernel) rfl
theorem x87_54 (h : obC r = 2) : Ze d 87 54 [l0, l1, l2] (aR r :: st) s = Ze d 87 57 [l0, l1, l2] (aR (fcn r 0) :: st) s := Ze_gf (len := 3) (idx := 18) (by decide +kernel) rfl h rfl
theorem x87_57 : Ze d 87 57 [aR r, l1, l2] st s = Ze d 87 58 [aR r, l1, l2] (aR r :: st) s := Ze_n (i := (.aload_n 0)) (len := 1) (by decide +kernel) rfl
theorem x87_58 (h : obC r = 2) (h2 : 0 ≤ s r 6) : Ze d 87 58 [l0, l1, l2] (aR r :: st) s = Ze d 87 61 [l0, l1, l2] (aR (s r 6).toNat :: st) s := Ze_gf (len := 3) (idx := 41) (by decide +kernel) rfl h (fldV_dyn rfl h2)
theorem x87_61 (h : obC r = 6) : Ze d 87 61 [l0, l1, l2] (aR r :: st) s = Ze d 87 64 [l0, l1, l2] (aR (fcn r 2) :: st) s := Ze_gf (len := 3) (idx := 159) (by decide +kernel) rfl h rfl
theorem x87_64 : Ze d 87 64 [l0, aI z, l2] st s = Ze d 87 65 [l0, aI z, l2] (aI z :: st) s := Ze_n (i := (.iload_n 1)) (len := 1) (by decide +kernel) rfl
theorem x87_65 (h0 : 0 ≤ i) (h1 : i < aN1 r) : Ze d 87 65 [l0, l1, l2] (aI i :: aR r :: st) s = Ze d 87 66 [l0, l1, l2] (aI (s r i.toNat) :: st) s := Ze_n (i := .iaload) (len := 1) (by decide +kernel) (if_pos ⟨h0, h1⟩)
theorem x87_66 : Ze d 87 66 [aR r, l1, l2] st s = Ze d 87 67 [aR r, l1, l2] (aR r :: st) s := Ze_n (i := (.aload_n 0)) (len := 1) (by decide +kernel) rfl
theorem x87_67 (h : obC r = 2) (h2 : 0 ≤ s r 6) : Ze d 87 67 [l0, l1, l2] (aR r :: st) s = Ze d 87 70 [l0, l1, l2] (aR (s r 6).toNat :: st) s := Ze_gf (len := 3) (idx := 41) (by decide +kernel) rfl h (fldV_dyn rfl h2)
theorem x87_70 (h : obC r = 6) : Ze d 87 70 [l0, l1, l2] (aR r :: st) s = Ze d 87 73 [l0, l1, l2] (aR (fcn r 2) :: st) s := Ze_gf (len := 3) (idx := 159) (by decide +kernel) rfl h rfl
theorem x87_73 : Ze d 87 73 [l0, l1, aI z] st s = Ze d 87 74 [l0, l1, aI z] (aI z :: st) s := Ze_n (i := (.iload_n 2)) (len := 1) (by decide +kernel) rfl
theorem x87_74 (h0 : 0 ≤ i) (h1 : i < aN1 r) : Ze d 87 74 [l0, l1, l2] (aI i :: aR r :: st) s = Ze d 87 75 [l0, l1, l2] (aI (s r i.toNat) :: st) s := Ze_n (i := .iaload) (len := 1) (by decide +kernel) (if_pos ⟨h0, h1⟩)
theorem x87_75 (h : obC r = 12) (h6 : st.length ≤ 4) : Ze d 87 75 [l0, l1, l2] (aI a2 :: aI a1 :: aR r :: st) s = zcI (Zc d 168 [aR r, aI a1, aI a2] s) d 87 78 [l0, l1, l2] st := Ze_cvI (idx := 162) (len := 3) (as := [aI a1, aI a2]) (by decide +kernel) rfl (by decide +kernel) rfl h h6
theorem x87_78 : Ze d 87 78 [l0, l1, l2] (aI a :: st) s = if a = 0 then Ze d 87 85 [l0, l1, l2] st s else Ze d 87 81 [l0, l1, l2] st s := Ze_b (i := (.ifCond .eq 7)) (len := 3) (by decide +kernel) rfl
theorem x87_81 : Ze d 87 81 [l0, l1, l2] st s = Ze d 87 82 [l0, l1, l2] (aI 1 :: st) s := Ze_n (i := (.iconst 1)) (len := 1) (by decide +kernel) rfl
theorem x87_82 : Ze d 87 82 [l0, l1, l2] st s = Ze d 87 86 [l0, l1, l2] st s := Ze_n (i := (.goto 4)) (len := 3) (by decide +kernel) rfl
theorem x87_85 : Ze d 87 85 [l0, l1, l2] st s = Ze d 87 86 [l0, l1, l2] (aI 0 :: st) s := Ze_n (i := (.iconst 0)) (len := 1) (by decide +kernel) rfl
theorem x87_86 (h : z = 0 ∨ z = 1) : Ze d 87 86 [l0, l1, l2] [aI z] s = rI z s := Ze_i2 (by decide +kernel) rfl h
theorem en87 : Zc (d + 1) 87 [aR r, aI a1, aI a2] s = Ze d 87 0 [aR r, aI a1, aI a2] [] s := rfl
theorem x88_0 : Ze d 88 0 [aR r, l1, l2, l3, l4] st s = Ze d 88 1 [aR r, l1, l2, l3, l4] (aR r :: st) s := Ze_n (i := (.aload_n 0)) (len := 1) (by decide +kernel) rfl
theorem x88_1 (h : obC r = 2) : Ze d 88 1 [l0, l1, l2, l3, l4] (aR r :: st) s = Ze d 88 4 [l0, l1, l2, l3, l4] (aR (fcn r 2) :: st) s := Ze_gf (len := 3) (idx := 26) (by decide +kernel) rfl h rfl
theorem x88_4 : Ze d 88 4 [l0, aR r, l2, l3, l4] st s = Ze d 88 5 [l0, aR r, l2, l3, l4] (aR r :: st) s := Ze_n (i := (.aload_n 1)) (len := 1) (by decide +kernel) rfl
theorem x88_5 : Ze d 88 5 [l0, l1, aI z, l3, l4] st s = Ze d 88 6 [l0, l1, aI z, l3, l4] (aI z :: st) s := Ze_n (i := (.iload_n 2)) (len := 1) (by decide +kernel) rfl
theorem x88_6 (h : obC r = 4) (h6 : st.length ≤ 4) : Ze d 88 6 [l0, l1, l2, l3, l4] (aI a2 :: aR r1 :: aR r :: st) s = zcI (Zc d 98 [aR r, aR r1, aI a2] s) d 88 9 [l0, l1, l2, l3, l4] st := Ze_cvI (idx := 74) (len := 3) (as := [aR r1, aI a2]) (by decide +kernel) rfl (by decide +kernel) rfl h h6
theorem x88_9 : Ze d 88 9 [l0, l1, l2, l3, l4] (aI z :: st) s = Ze d 88 10 [l0, l1, l2, aI z, l4] st s := Ze_n (i := (.istore_n 3)) (len := 1) (by decide +kernel) rfl
theorem x88_10 : Ze d 88 10 [l0, l1, l2, l3, l4] st s = Ze d 88 11 [l0, l1, l2, l3, l4] (aI 0 :: st) s := Ze_n (i := (.iconst 0)) (len := 1) (by decide +kernel) rfl
theorem x88_11 : Ze d 88 11 [l0, l1, l2, l3, l4] (aI z :: st) s = Ze d 88 13 [l0, l1, l2, l3, aI z] st s := Ze_n (i := (.istore 4)) (len := 2) (by decide +kernel) rfl
theorem x88_13 : Ze d 88 13 [l0, l1, l2, l3, aI z] st s = Ze d 88 15 [l0, l1, l2, l3, aI z] (aI z :: st) s := Ze_n (i := (.iload 4)) (len := 2) (by decide +kernel) rfl
theorem x88_15 : Ze d 88 15 [l0, l1, l2, aI z, l4] st s = Ze d 88 16 [l0, l1, l2, aI z, l4] (aI z :: st) s := Ze_n (i := (.iload_n 3)) (len := 1) (by decide +kernel) rfl
theorem x88_16 : Ze d 88 16 [l0, l1, l2, l3, l4] (aI b :: aI a :: st) s = if a < b then Ze d 88 19 [l0, l1, l2, l3, l4] st s else Ze d 88 49 [l0, l1, l2, l3, l4] st s := Ze_b (i := (.if_icmp .ge 33)) (len := 3) (by decide +kernel) rfl
theorem x88_19 : Ze d 88 19 [aR r, l1, l2, l3, l4] st s = Ze d 88 20 [aR r, l1, l2, l3, l4] (aR r :: st) s := Ze_n (i := (.aload_n 0)) (len := 1) (by decide +kernel) rfl
theorem x88_20 (h : obC r = 2) (h2 : 0 ≤ s r 5) : Ze d 88 20 [l0, l1, l2, l3, l4] (aR r :: st) s = Ze d 88 23 [l0, l1, l2, l3, l4] (aR (s r 5).toNat :: st) s := Ze_gf (len := 3) (idx := 36) (by decide +kernel) rfl h (fldV_dyn rfl h2)
theorem x88_23 (h : obC r = 8) : Ze d 88 23 [l0, l1, l2, l3, l4] (aR r :: st) s = Ze d 88 26 [l0, l1, l2, l3, l4] (aR (fcn r 4) :: st) s := Ze_gf (len := 3) (idx := 165) (by decide +kernel) rfl h rfl
theorem x88_26 : Ze d 88 26 [aR r, l1, l2, l3, l4] st s = Ze d 88 27 [aR r, l1, l2, l3, l4] (aR r :: st) s := Ze_n (i := (.aload_n 0)) (len := 1) (by decide +kernel) rfl
theorem x88_27 (h : obC r = 2) : Ze d 88 27 [l0, l1, l2, l3, l4] (aR r :: st) s = Ze d 88 30 [l0, l1, l2, l3, l4] (aR (fcn r 2) :: st) s := Ze_gf (len := 3) (idx := 26) (by decide +kernel) rfl h rfl
theorem x88_30 : Ze d 88 30 [l0, aR r, l2, l3, l4] st s = Ze d 88 31 [l0, aR r, l2, l3, l4] (aR r :: st) s := Ze_n (i := (.aload_n 1)) (len := 1) (by decide +kernel) rfl
theorem x88_31 : Ze d 88 31 [l0, l1, aI z, l3, l4] st s = Ze d 88 32 [l0, l1, aI z, l3, l4] (aI z :: st) s := Ze_n (i := (.iload_n 2)) (len := 1) (by decide +kernel) rfl
theorem x88_32 : Ze d 88 32 [l0, l1, l2, l3, aI z] st s = Ze d 88 34 [l0, l1, l2, l3, aI z] (aI z :: st) s := Ze_n (i := (.iload 4)) (len := 2) (by decide +kernel) rfl
theorem x88_34 (h : obC r = 4) (h6 : st.length ≤ 4) : Ze d 88 34 [l0, l1, l2, l3, l4] (aI a3 :: aI a2 :: aR r1 :: aR r :: st) s = zcI (Zc d 99 [aR r, aR r1, aI a2, aI a3] s) d 88 37 [l0, l1, l2, l3, l4] st := Ze_cvI (idx := 168) (len := 3) (as := [aR r1, aI a2, aI a3]) (by decide +kernel) rfl (by decide +kernel) rfl h h6
theorem x88_37 (h0 : 0 ≤ i) (h1 : i < aN2 r) : Ze d 88 37 [l0, l1, l2, l3, l4] (aI i :: aR r :: st) s = Ze d 88 38 [l0, l1, l2, l3, l4] (aI (s r i.toNat) :: st) s := Ze_n (i := .baload) (len := 1) (by decide +kernel) (if_pos ⟨h0, h1⟩)
theorem x88_38 : Ze d 88 38 [l0, l1, l2, l3, l4] (aI a :: st) s = if a = 0 then Ze d 88 41 [l0, l1, l2, l3, l4] st s else Ze d 88 43 [l0, l1, l2, l3, l4] st s := Ze_b (i := (.ifCond .ne 5)) (len := 3) (by decide +kernel) rfl
theorem x88_41 : Ze d 88 41 [l0, l1, l2, l3, l4] st s = Ze d 88 42 [l0, l1, l2, l3, l4] (aI 0 :: st) s := Ze_n (i := (.iconst 0)) (len := 1) (by decide +kernel) rfl
theorem x88_42 (h : z = 0 ∨ z = 1) : Ze d 88 42 [l0, l1, l2, l3, l4] [aI z] s = rI z s := Ze_i2 (by decide +kernel) rfl h
theorem x88_43 : Ze d 88 43 [l0, l1, l2, l3, aI z] st s = Ze d 88 46 [l0, l1, l2, l3, aI (wrap (z + 1))] st s := Ze_n (i := (.iinc 4 1)) (len := 3) (by decide +kernel) rfl
theorem x88_46 : Ze d 88 46 [l0, l1, l2, l3, l4] st s = Ze d 88 13 [l0, l1, l2, l3, l4] st s := Ze_n (i := (.goto (-33))) (len := 3) (by decide +kernel) rfl
theorem x88_49 : Ze d 88 49 [l0, l1, l2, l3, l4] st s = Ze d 88 50 [l0, l1, l2, l3, l4] (aI 1 :: st) s := Ze_n (i := (.iconst 1)) (len := 1) (by decide +kernel) rfl
theorem x88_50 (h : z = 0 ∨ z = 1) : Ze d 88 50 [l0, l1, l2, l3, l4] [aI z] s = rI z s := Ze_i2 (by decide +kernel) rfl h
theorem en88 : Zc (d + 1) 88 [aR r, aR r1, aI a2] s = Ze d 88 0 [aR r, aR r1, aI a2, aU, aU] [] s := rfl
theorem x78_0 : Ze d 78 0 [aR r, l1] st s = Ze d 78 1 [aR r, l1] (aR r :: st) s := Ze_n (i := (.aload_n 0)) (len := 1) (by decide +kernel) rfl
theorem x78_1 (h : obC r = 2) : Ze d 78 1 [l0, l1] (aR r :: st) s = Ze d 78 4 [l0, l1] (aR (fcn r 1) :: st) s := Ze_gf (len := 3) (idx := 22) (by decide +kernel) rfl h rfl
theorem x78_4 (h : obC r = 10) : Ze d 78 4 [l0, l1] (aR r :: st) s = Ze d 78 7 [l0, l1] (aR (fcn r 0) :: st) s := Ze_gf (len := 3) (idx := 67) (by decide +kernel) rfl h rfl
theorem x78_7 : Ze d 78 7 [l0, aI z] st s = Ze d 78 8 [l0, aI z] (aI z :: st) s := Ze_n (i := (.iload_n 1)) (len := 1) (by decide +kernel) rfl
theorem x78_8 (h0 : 0 ≤ i) (h1 : i < aN1 r) : Ze d 78 8 [l0, l1] (aI i :: aR r :: st) s = Ze d 78 9 [l0, l1] (aI (s r i.toNat) :: st) s := Ze_n (i := .iaload) (len := 1) (by decide +kernel) (if_pos ⟨h0, h1⟩)
theorem x78_9 : Ze d 78 9 [l0, l1] (aI a :: st) s = if a = 3 then Ze d 78 60 [l0, l1] st s else if a = 58 then Ze d 78 97 [l0, l1] st s else if a = 63 then Ze d 78 83 [l0, l1] st s else if a = 78 then Ze d 78 99 [l0, l1] st s else if a = 125 then Ze d 78 97 [l0, l1] st s else Ze d 78 105 [l0, l1] st s :=
  Ze_lk (dflt := 96) (ps := #[(3, 51), (58, 88), (63, 74), (78, 90), (125, 88)]) (len := 51) (ks := [(3, 60), (58, 97), (63, 83), (78, 99), (125, 97)]) (df := 105) (by decide +kernel) (by decide +kernel) (by decide +kernel)
theorem x78_60 : Ze d 78 60 [aR r, l1] st s = Ze d 78 61 [aR r, l1] (aR r :: st) s := Ze_n (i := (.aload_n 0)) (len := 1) (by decide +kernel) rfl
theorem x78_61 : Ze d 78 61 [aR r, l1] st s = Ze d 78 62 [aR r, l1] (aR r :: st) s := Ze_n (i := (.aload_n 0)) (len := 1) (by decide +kernel) rfl
theorem x78_62 (h : obC r = 2) : Ze d 78 62 [l0, l1] (aR r :: st) s = Ze d 78 65 [l0, l1] (aR (fcn r 1) :: st) s := Ze_gf (len := 3) (idx := 22) (by decide +kernel) rfl h rfl
theorem x78_65 (h : obC r = 10) : Ze d 78 65 [l0, l1] (aR r :: st) s = Ze d 78 68 [l0, l1] (aR (fcn r 2) :: st) s := Ze_gf (len := 3) (idx := 80) (by decide +kernel) rfl h rfl
theorem x78_68 : Ze d 78 68 [l0, aI z] st s = Ze d 78 69 [l0, aI z] (aI z :: st) s := Ze_n (i := (.iload_n 1)) (len := 1) (by decide +kernel) rfl
theorem x78_69 (h0 : 0 ≤ i) (h1 : i < aN1 r) : Ze d 78 69 [l0, l1] (aI i :: aR r :: st) s = Ze d 78 70 [l0, l1] (aI (s r i.toNat) :: st) s := Ze_n (i := .iaload) (len := 1) (by decide +kernel) (if_pos ⟨h0, h1⟩)
theorem x78_70 : Ze d 78 70 [aR r, l1] st s = Ze d 78 71 [aR r, l1] (aR r :: st) s := Ze_n (i := (.aload_n 0)) (len := 1) (by decide +kernel) rfl
theorem x78_71 (h : obC r = 2) : Ze d 78 71 [l0, l1] (aR r :: st) s = Ze d 78 74 [l0, l1] (aR (fcn r 1) :: st) s := Ze_gf (len := 3) (idx := 22) (by decide +kernel) rfl h rfl
theorem x78_74 (h : obC r = 10) : Ze d 78 74 [l0, l1] (aR r :: st) s = Ze d 78 77 [l0, l1] (aR (fcn r 3) :: st) s := Ze_gf (len := 3) (idx := 83) (by decide +kernel) rfl h rfl
theorem x78_77 : Ze d 78 77 [l0, aI z] st s = Ze d 78 78 [l0, aI z] (aI z :: st) s := Ze_n (i := (.iload_n 1)) (len := 1) (by decide +kernel) rfl
theorem x78_78 (h0 : 0 ≤ i) (h1 : i < aN1 r) : Ze d 78 78 [l0, l1] (aI i :: aR r :: st) s = Ze d 78 79 [l0, l1] (aI (s r i.toNat) :: st) s := Ze_n (i := .iaload) (len := 1) (by decide +kernel) (if_pos ⟨h0, h1⟩)
theorem x78_79 (h : obC r = 2) (h6 : st.length ≤ 4) : Ze d 78 79 [l0, l1] (aI a2 :: aI a1 :: aR r :: st) s = zcI (Zc d 87 [aR r, aI a1, aI a2] s) d 78 82 [l0, l1] st := Ze_cvI (idx := 86) (len := 3) (as := [aI a1, aI a2]) (by decide +kernel) rfl (by decide +kernel) rfl h h6
theorem x78_82 (h : z = 0 ∨ z = 1) : Ze d 78 82 [l0, l1] [aI z] s = rI z s := Ze_i2 (by decide +kernel) rfl h
theorem x78_83 : Ze d 78 83 [aR r, l1] st s = Ze d 78 84 [aR r, l1] (aR r :: st) s := Ze_n (i := (.aload_n 0)) (len := 1) (by decide +kernel) rfl
theorem x78_84 : Ze d 78 84 [aR r, l1] st s = Ze d 78 85 [aR r, l1] (aR r :: st) s := Ze_n (i := (.aload_n 0)) (len := 1) (by decide +kernel) rfl
theorem x78_85 (h : obC r = 2) : Ze d 78 85 [l0, l1] (aR r :: st) s = Ze d 78 88 [l0, l1] (aR (fcn r 1) :: st) s := Ze_gf (len := 3) (idx := 22) (by decide +kernel) rfl h rfl
theorem x78_88 (h : obC r = 10) : Ze d 78 88 [l0, l1] (aR r :: st) s = Ze d 78 91 [l0, l1] (aR (fcn r 2) :: st) s := Ze_gf (len := 3) (idx := 80) (by decide +kernel) rfl h rfl
theorem x78_91 : Ze d 78 91 [l0, aI z] st s = Ze d 78 92 [l0, aI z] (aI z :: st) s := Ze_n (i := (.iload_n 1)) (len := 1) (by decide +kernel) rfl
theorem x78_92 (h0 : 0 ≤ i) (h1 : i < aN1 r) : Ze d 78 92 [l0, l1] (aI i :: aR r :: st) s = Ze d 78 93 [l0, l1] (aI (s r i.toNat) :: st) s := Ze_n (i := .iaload) (len := 1) (by decide +kernel) (if_pos ⟨h0, h1⟩)
theorem x78_93 (h : obC r = 2) (h6 : st.length ≤ 4) : Ze d 78 93 [l0, l1] (aI a1 :: aR r :: st) s = zcI (Zc d 85 [aR r, aI a1] s) d 78 96 [l0, l1] st := Ze_cvI (idx := 90) (len := 3) (as := [aI a1]) (by decide +kernel) rfl (by decide +kernel) rfl h h6
theorem x78_96 (h : z = 0 ∨ z = 1) : Ze d 78 96 [l0, l1] [aI z] s = rI z s := Ze_i2 (by decide +kernel) rfl h
theorem x78_97 : Ze d 78 97 [l0, l1] st s = Ze d 78 98 [l0, l1] (aI 1 :: st) s := Ze_n (i := (.iconst 1)) (len := 1) (by decide +kernel) rfl
theorem x78_98 (h : z = 0 ∨ z = 1) : Ze d 78 98 [l0, l1] [aI z] s = rI z s := Ze_i2 (by decide +kernel) rfl h
theorem x78_99 : Ze d 78 99 [aR r, l1] st s = Ze d 78 100 [aR r, l1] (aR r :: st) s := Ze_n (i := (.aload_n 0)) (len := 1) (by decide +kernel) rfl
theorem x78_100 : Ze d 78 100 [l0, aI z] st s = Ze d 78 101 [l0, aI z] (aI z :: st) s := Ze_n (i := (.iload_n 1)) (len := 1) (by decide +kernel) rfl
theorem x78_101 (h : obC r = 2) (h6 : st.length ≤ 4) : Ze d 78 101 [l0, l1] (aI a1 :: aR r :: st) s = zcI (Zc d 80 [aR r, aI a1] s) d 78 104 [l0, l1] st := Ze_cvI (idx := 93) (len := 3) (as := [aI a1]) (by decide +kernel) rfl (by decide +kernel) rfl h h6
theorem x78_104 (h : z = 0 ∨ z = 1) : Ze d 78 104 [l0, l1] [aI z] s = rI z s := Ze_i2 (by decide +kernel) rfl h
theorem x78_105 : Ze d 78 105 [aR r, l1] st s = Ze d 78 106 [aR r, l1] (aR r :: st) s := Ze_n (i := (.aload_n 0)) (len := 1) (by decide +kernel) rfl
theorem x78_106 : Ze d 78 106 [l0, aI z] st s = Ze d 78 107 [l0, aI z] (aI z :: st) s := Ze_n (i := (.iload_n 1)) (len := 1) (by decide +kernel) rfl
theorem x78_107 (h : obC r = 2) (h6 : st.length ≤ 4) : Ze d 78 107 [l0, l1] (aI a1 :: aR r :: st) s = zcI (Zc d 79 [aR r, aI a1] s) d 78 110 [l0, l1] st := Ze_cvI (idx := 96) (len := 3) (as := [aI a1]) (by decide +kernel) rfl (by decide +kernel) rfl h h6
theorem x78_110 (h : z = 0 ∨ z = 1) : Ze d 78 110 [l0, l1] [aI z] s = rI z s := Ze_i2 (by decide +kernel) rfl h
theorem en78 : Zc (d + 1) 78 [aR r, aI a1] s = Ze d 78 0 [aR r, aI a1] [] s := rfl
theorem x77_0 : Ze d 77 0 [aR r, l1, l2] st s = Ze d 77 1 [aR r, l1, l2] (aR r :: st) s := Ze_n (i := (.aload_n 0)) (len := 1) (by decide +kernel) rfl
theorem x77_1 : Ze d 77 1 [l0, aR r, l2] st s = Ze d 77 2 [l0, aR r, l2] (aR r :: st) s := Ze_n (i := (.aload_n 1)) (len := 1) (by decide +kernel) rfl
theorem x77_2 (h : obC r = 3) : Ze d 77 2 [l0, l1, l2] (aR r :: st) s = Ze d 77 5 [l0, l1, l2] (aR (fcn r 0) :: st) s := Ze_gf (len := 3) (idx := 30) (by decide +kernel) rfl h rfl
theorem x77_5 (h : obC r = 2) (h2 : q < lyt.length) : Ze d 77 5 [l0, l1, l2] (aR q :: aR r :: st) s = Ze d 77 8 [l0, l1, l2] st (mu s r 5 (q : Int)) := Ze_n (i := .putfield 36) (len := 3) (by decide +kernel) (if_pos ⟨h, h2⟩)
theorem x77_8 : Ze d 77 8 [aR r, l1, l2] st s = Ze d 77 9 [aR r, l1, l2] (aR r :: st) s := Ze_n (i := (.aload_n 0)) (len := 1) (by decide +kernel) rfl
theorem x77_9 : Ze d 77 9 [l0, aR r, l2] st s = Ze d 77 10 [l0, aR r, l2] (aR r :: st) s := Ze_n (i := (.aload_n 1)) (len := 1) (by decide +kernel) rfl
theorem x77_10 (h : obC r = 3) : Ze d 77 10 [l0, l1, l2] (aR r :: st) s = Ze d 77 13 [l0, l1, l2] (aR (fcn r 1) :: st) s := Ze_gf (len := 3) (idx := 37) (by decide +kernel) rfl h rfl
theorem x77_13 (h : obC r = 2) (h2 : q < lyt.length) : Ze d 77 13 [l0, l1, l2] (aR q :: aR r :: st) s = Ze d 77 16 [l0, l1, l2] st (mu s r 6 (q : Int)) := Ze_n (i := .putfield 41) (len := 3) (by decide +kernel) (if_pos ⟨h, h2⟩)
theorem x77_16 : Ze d 77 16 [aR r, l1, l2] st s = Ze d 77 17 [aR r, l1, l2] (aR r :: st) s := Ze_n (i := (.aload_n 0)) (len := 1) (by decide +kernel) rfl
theorem x77_17 (h : obC r = 2) (h2 : 0 ≤ s r 5) : Ze d 77 17 [l0, l1, l2] (aR r :: st) s = Ze d 77 20 [l0, l1, l2] (aR (s r 5).toNat :: st) s := Ze_gf (len := 3) (idx := 36) (by decide +kernel) rfl h (fldV_dyn rfl h2)
theorem x77_20 : Ze d 77 20 [l0, l1, l2] st s = Ze d 77 21 [l0, l1, l2] (aI 0 :: st) s := Ze_n (i := (.iconst 0)) (len := 1) (by decide +kernel) rfl
theorem x77_21 (h : obC r = 8) : Ze d 77 21 [l0, l1, l2] (aI z :: aR r :: st) s = Ze d 77 24 [l0, l1, l2] st (mu s r 6 z) := Ze_n (i := .putfield 42) (len := 3) (by decide +kernel) (if_pos h)
theorem x77_24 : Ze d 77 24 [l0, aR r, l2] st s = Ze d 77 25 [l0, aR r, l2] (aR r :: st) s := Ze_n (i := (.aload_n 1)) (len := 1) (by decide +kernel) rfl
theorem x77_25 : Ze d 77 25 [l0, l1, l2] st s = Ze d 77 26 [l0, l1, l2] (aI 0 :: st) s := Ze_n (i := (.iconst 0)) (len := 1) (by decide +kernel) rfl
theorem x77_26 (h : obC r = 3) : Ze d 77 26 [l0, l1, l2] (aI z :: aR r :: st) s = Ze d 77 29 [l0, l1, l2] st (mu s r 2 z) := Ze_n (i := .putfield 48) (len := 3) (by decide +kernel) (if_pos h)
theorem x77_29 : Ze d 77 29 [aR r, l1, l2] st s = Ze d 77 30 [aR r, l1, l2] (aR r :: st) s := Ze_n (i := (.aload_n 0)) (len := 1) (by decide +kernel) rfl
theorem x77_30 (h : obC r = 2) : Ze d 77 30 [l0, l1, l2] (aR r :: st) s = Ze d 77 33 [l0, l1, l2] (aR (fcn r 3) :: st) s := Ze_gf (len := 3) (idx := 9) (by decide +kernel) rfl h rfl
theorem x77_33 : Ze d 77 33 [l0, l1, l2] st s = Ze d 77 34 [l0, l1, l2] (aI (-1) :: st) s := Ze_n (i := (.iconst (-1))) (len := 1) (by decide +kernel) rfl
theorem x77_34 (h6 : st.length ≤ 4) : Ze d 77 34 [l0, l1, l2] (aI a1 :: aR r0 :: st) s = zcV (Zc d 63 [aR r0, aI a1] s) d 77 37 [l0, l1, l2] st := Ze_csV (idx := 51) (len := 3) (as := [aR r0, aI a1]) (by decide +kernel) rfl rfl (by decide +kernel) rfl h6
theorem x77_37 : Ze d 77 37 [l0, l1, l2] st s = Ze d 77 38 [l0, l1, l2] (aI 0 :: st) s := Ze_n (i := (.iconst 0)) (len := 1) (by decide +kernel) rfl
theorem x77_38 : Ze d 77 38 [l0, l1, l2] (aI z :: st) s = Ze d 77 39 [l0, l1, aI z] st s := Ze_n (i := (.istore_n 2)) (len := 1) (by decide +kernel) rfl
theorem x77_39 : Ze d 77 39 [l0, l1, aI z] st s = Ze d 77 40 [l0, l1, aI z] (aI z :: st) s := Ze_n (i := (.iload_n 2)) (len := 1) (by decide +kernel) rfl
theorem x77_40 : Ze d 77 40 [aR r, l1, l2] st s = Ze d 77 41 [aR r, l1, l2] (aR r :: st) s := Ze_n (i := (.aload_n 0)) (len := 1) (by decide +kernel) rfl
theorem x77_41 (h : obC r = 2) : Ze d 77 41 [l0, l1, l2] (aR r :: st) s = Ze d 77 44 [l0, l1, l2] (aR (fcn r 1) :: st) s := Ze_gf (len := 3) (idx := 22) (by decide +kernel) rfl h rfl
theorem x77_44 (h : obC r = 10) : Ze d 77 44 [l0, l1, l2] (aR r :: st) s = Ze d 77 47 [l0, l1, l2] (aI (s r 4) :: st) s := Ze_gf (len := 3) (idx := 57) (by decide +kernel) rfl h rfl
theorem x77_47 : Ze d 77 47 [l0, l1, l2] (aI b :: aI a :: st) s = if a < b then Ze d 77 50 [l0, l1, l2] st s else Ze d 77 124 [l0, l1, l2] st s := Ze_b (i := (.if_icmp .ge 77)) (len := 3) (by decide +kernel) rfl
theorem x77_50 : Ze d 77 50 [aR r, l1, l2] st s = Ze d 77 51 [aR r, l1, l2] (aR r :: st) s := Ze_n (i := (.aload_n 0)) (len := 1) (by decide +kernel) rfl
theorem x77_51 : Ze d 77 51 [l0, l1, aI z] st s = Ze d 77 52 [l0, l1, aI z] (aI z :: st) s := Ze_n (i := (.iload_n 2)) (len := 1) (by decide +kernel) rfl
theorem x77_52 (h : obC r = 2) (h6 : st.length ≤ 4) : Ze d 77 52 [l0, l1, l2] (aI a1 :: aR r :: st) s = zcI (Zc d 78 [aR r, aI a1] s) d 77 55 [l0, l1, l2] st := Ze_cvI (idx := 60) (len := 3) (as := [aI a1]) (by decide +kernel) rfl (by decide +kernel) rfl h h6
theorem x77_55 : Ze d 77 55 [l0, l1, l2] (aI a :: st) s = if a = 0 then Ze d 77 58 [l0, l1, l2] st s else Ze d 77 68 [l0, l1, l2] st s := Ze_b (i := (.ifCond .ne 13)) (len := 3) (by decide +kernel) rfl
theorem x77_58 : Ze d 77 58 [aR r, l1, l2] st s = Ze d 77 59 [aR r, l1, l2] (aR r :: st) s := Ze_n (i := (.aload_n 0)) (len := 1) (by decide +kernel) rfl
theorem x77_59 (h : obC r = 2) : Ze d 77 59 [l0, l1, l2] (aR r :: st) s = Ze d 77 62 [l0, l1, l2] (aR (fcn r 1) :: st) s := Ze_gf (len := 3) (idx := 22) (by decide +kernel) rfl h rfl
theorem x77_62 (h : obC r = 10) : Ze d 77 62 [l0, l1, l2] (aR r :: st) s = Ze d 77 65 [l0, l1, l2] (aR (fcn r 1) :: st) s := Ze_gf (len := 3) (idx := 64) (by decide +kernel) rfl h rfl
theorem x77_65 : Ze d 77 65 [l0, l1, aI z] st s = Ze d 77 66 [l0, l1, aI z] (aI z :: st) s := Ze_n (i := (.iload_n 2)) (len := 1) (by decide +kernel) rfl
theorem x77_66 (h0 : 0 ≤ i) (h1 : i < aN1 r) : Ze d 77 66 [l0, l1, l2] (aI i :: aR r :: st) s = Ze d 77 67 [l0, l1, l2] (aI (s r i.toNat) :: st) s := Ze_n (i := .iaload) (len := 1) (by decide +kernel) (if_pos ⟨h0, h1⟩)
theorem x77_67 : Ze d 77 67 [l0, l1, l2] [aI z] s = rI z s := Ze_i1 (by decide +kernel) rfl
theorem x77_68 : Ze d 77 68 [aR r, l1, l2] st s = Ze d 77 69 [aR r, l1, l2] (aR r :: st) s := Ze_n (i := (.aload_n 0)) (len := 1) (by decide +kernel) rfl
theorem x77_69 (h : obC r = 2) : Ze d 77 69 [l0, l1, l2] (aR r :: st) s = Ze d 77 72 [l0, l1, l2] (aR (fcn r 1) :: st) s := Ze_gf (len := 3) (idx := 22) (by decide +kernel) rfl h rfl
theorem x77_72 (h : obC r = 10) : Ze d 77 72 [l0, l1, l2] (aR r :: st) s = Ze d 77 75 [l0, l1, l2] (aR (fcn r 0) :: st) s := Ze_gf (len := 3) (idx := 67) (by decide +kernel) rfl h rfl
theorem x77_75 : Ze d 77 75 [l0, l1, aI z] st s = Ze d 77 76 [l0, l1, aI z] (aI z :: st) s := Ze_n (i := (.iload_n 2)) (len := 1) (by decide +kernel) rfl
theorem x77_76 (h0 : 0 ≤ i) (h1 : i < aN1 r) : Ze d 77 76 [l0, l1, l2] (aI i :: aR r :: st) s = Ze d 77 77 [l0, l1, l2] (aI (s r i.toNat) :: st) s := Ze_n (i := .iaload) (len := 1) (by decide +kernel) (if_pos ⟨h0, h1⟩)
theorem x77_77 : Ze d 77 77 [l0, l1, l2] st s = Ze d 77 78 [l0, l1, l2] (aI 3 :: st) s := Ze_n (i := (.iconst 3)) (len := 1) (by decide +kernel) rfl
theorem x77_78 : Ze d 77 78 [l0, l1, l2] (aI b :: aI a :: st) s = if a = b then Ze d 77 81 [l0, l1, l2] st s else Ze d 77 118 [l0, l1, l2] st s := Ze_b (i := (.if_icmp .ne 40)) (len := 3) (by decide +kernel) rfl
theorem x77_81 : Ze d 77 81 [aR r, l1, l2] st s = Ze d 77 82 [aR r, l1, l2] (aR r :: st) s := Ze_n (i := (.aload_n 0)) (len := 1) (by decide +kernel) rfl
theorem x77_82 : Ze d 77 82 [l0, aR r, l2] st s = Ze d 77 83 [l0, aR r, l2] (aR r :: st) s := Ze_n (i := (.aload_n 1)) (len := 1) (by decide +kernel) rfl
theorem x77_83 : Ze d 77 83 [l0, l1, aI z] st s = Ze d 77 84 [l0, l1, aI z] (aI z :: st) s := Ze_n (i := (.iload_n 2)) (len := 1) (by decide +kernel) rfl
theorem x77_84 (h : obC r = 2) (h6 : st.length ≤ 4) : Ze d 77 84 [l0, l1, l2] (aI a2 :: aR r1 :: aR r :: st) s = zcI (Zc d 88 [aR r, aR r1, aI a2] s) d 77 87 [l0, l1, l2] st := Ze_cvI (idx := 70) (len := 3) (as := [aR r1, aI a2]) (by decide +kernel) rfl (by decide +kernel) rfl h h6
theorem x77_87 : Ze d 77 87 [l0, l1, l2] (aI a :: st) s = if a = 0 then Ze d 77 90 [l0, l1, l2] st s else Ze d 77 100 [l0, l1, l2] st s := Ze_b (i := (.ifCond .ne 13)) (len := 3) (by decide +kernel) rfl
theorem x77_90 : Ze d 77 90 [aR r, l1, l2] st s = Ze d 77 91 [aR r, l1, l2] (aR r :: st) s := Ze_n (i := (.aload_n 0)) (len := 1) (by decide +kernel) rfl
theorem x77_91 (h : obC r = 2) : Ze d 77 91 [l0, l1, l2] (aR r :: st) s = Ze d 77 94 [l0, l1, l2] (aR (fcn r 1) :: st) s := Ze_gf (len := 3) (idx := 22) (by decide +kernel) rfl h rfl
theorem x77_94 (h : obC r = 10) : Ze d 77 94 [l0, l1, l2] (aR r :: st) s = Ze d 77 97 [l0, l1, l2] (aR (fcn r 1) :: st) s := Ze_gf (len := 3) (idx := 64) (by decide +kernel) rfl h rfl
theorem x77_97 : Ze d 77 97 [l0, l1, aI z] st s = Ze d 77 98 [l0, l1, aI z] (aI z :: st) s := Ze_n (i := (.iload_n 2)) (len := 1) (by decide +kernel) rfl
theorem x77_98 (h0 : 0 ≤ i) (h1 : i < aN1 r) : Ze d 77 98 [l0, l1, l2] (aI i :: aR r :: st) s = Ze d 77 99 [l0, l1, l2] (aI (s r i.toNat) :: st) s := Ze_n (i := .iaload) (len := 1) (by decide +kernel) (if_pos ⟨h0, h1⟩)
theorem x77_99 : Ze d 77 99 [l0, l1, l2] [aI z] s = rI z s := Ze_i1 (by decide +kernel) rfl
theorem x77_100 : Ze d 77 100 [l0, aR r, l2] st s = Ze d 77 101 [l0, aR r, l2] (aR r :: st) s := Ze_n (i := (.aload_n 1)) (len := 1) (by decide +kernel) rfl
theorem x77_101 : Ze d 77 101 [l0, l1, l2] (aR r :: st) s = Ze d 77 102 [l0, l1, l2] (aR r :: aR r :: st) s := Ze_n (i := .dup) (len := 1) (by decide +kernel) rfl
theorem x77_101i : Ze d 77 101 [l0, l1, l2] (aI a :: st) s = Ze d 77 102 [l0, l1, l2] (aI a :: aI a :: st) s := Ze_n (i := .dup) (len := 1) (by decide +kernel) rfl
theorem x77_102 (h : obC r = 3) : Ze d 77 102 [l0, l1, l2] (aR r :: st) s = Ze d 77 105 [l0, l1, l2] (aI (s r 2) :: st) s := Ze_gf (len := 3) (idx := 48) (by decide +kernel) rfl h rfl
theorem x77_105 : Ze d 77 105 [aR r, l1, l2] st s = Ze d 77 106 [aR r, l1, l2] (aR r :: st) s := Ze_n (i := (.aload_n 0)) (len := 1) (by decide +kernel) rfl
theorem x77_106 (h : obC r = 2) : Ze d 77 106 [l0, l1, l2] (aR r :: st) s = Ze d 77 109 [l0, l1, l2] (aR (fcn r 2) :: st) s := Ze_gf (len := 3) (idx := 26) (by decide +kernel) rfl h rfl
theorem x77_109 : Ze d 77 109 [l0, aR r, l2] st s = Ze d 77 110 [l0, aR r, l2] (aR r :: st) s := Ze_n (i := (.aload_n 1)) (len := 1) (by decide +kernel) rfl
theorem x77_110 : Ze d 77 110 [l0, l1, aI z] st s = Ze d 77 111 [l0, l1, aI z] (aI z :: st) s := Ze_n (i := (.iload_n 2)) (len := 1) (by decide +kernel) rfl
theorem x77_111 (h : obC r = 4) (h6 : st.length ≤ 4) : Ze d 77 111 [l0, l1, l2] (aI a2 :: aR r1 :: aR r :: st) s = zcI (Zc d 98 [aR r, aR r1, aI a2] s) d 77 114 [l0, l1, l2] st := Ze_cvI (idx := 74) (len := 3) (as := [aR r1, aI a2]) (by decide +kernel) rfl (by decide +kernel) rfl h h6
theorem x77_114 : Ze d 77 114 [l0, l1, l2] (aI b :: aI a :: st) s = Ze d 77 115 [l0, l1, l2] (aI (wrap (a + b)) :: st) s := Ze_n (i := .iadd) (len := 1) (by decide +kernel) rfl
theorem x77_115 (h : obC r = 3) : Ze d 77 115 [l0, l1, l2] (aI z :: aR r :: st) s = Ze d 77 118 [l0, l1, l2] st (mu s r 2 z) := Ze_n (i := .putfield 48) (len := 3) (by decide +kernel) (if_pos h)
theorem x77_118 : Ze d 77 118 [l0, l1, aI z] st s = Ze d 77 121 [l0, l1, aI (wrap (z + 1))] st s := Ze_n (i := (.iinc 2 1)) (len := 3) (by decide +kernel) rfl
theorem x77_121 : Ze d 77 121 [l0, l1, l2] st s = Ze d 77 39 [l0, l1, l2] st s := Ze_n (i := (.goto (-82))) (len := 3) (by decide +kernel) rfl
theorem x77_124 : Ze d 77 124 [l0, l1, l2] st s = Ze d 77 125 [l0, l1, l2] (aI (-1) :: st) s := Ze_n (i := (.iconst (-1))) (len := 1) (by decide +kernel) rfl
theorem x77_125 : Ze d 77 125 [l0, l1, l2] [aI z] s = rI z s := Ze_i1 (by decide +kernel) rfl
theorem en77 : Zc (d + 1) 77 [aR r, aR r1] s = Ze d 77 0 [aR r, aR r1, aU] [] s := rfl
