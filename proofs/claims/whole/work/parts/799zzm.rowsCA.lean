variable {d r q : Nat} {l0 l1 l2 l3 l4 l5 l6 l7 l8 l9 l10 l11 l12 l13 l14 l15 : AV} {st : List AV} {s : Mem} {a b z i n dp sp a0 a1 a2 a3 a4 a5 a6 : Int} {r0 r1 r2 r3 r4 : Nat}
theorem x76_0 : Ze d 76 0 [l0] st s = Ze d 76 1 [l0] (aI 1 :: st) s := Ze_n (i := (.iconst 1)) (len := 1) (by decide +kernel) rfl
theorem x76_1 : Ze d 76 1 [aI z] st s = Ze d 76 2 [aI z] (aI z :: st) s := Ze_n (i := (.iload_n 0)) (len := 1) (by decide +kernel) rfl
theorem x76_2 : Ze d 76 2 [l0] (aI b :: aI a :: st) s = Ze d 76 3 [l0] (aI (ishl a b) :: st) s := Ze_n (i := .ishl) (len := 1) (by decide +kernel) rfl
theorem x76_3 : Ze d 76 3 [l0] st s = Ze d 76 4 [l0] (aI 1 :: st) s := Ze_n (i := (.iconst 1)) (len := 1) (by decide +kernel) rfl
theorem x76_4 : Ze d 76 4 [l0] (aI b :: aI a :: st) s = Ze d 76 5 [l0] (aI (wrap (a - b)) :: st) s := Ze_n (i := .isub) (len := 1) (by decide +kernel) rfl
theorem x76_5 : Ze d 76 5 [l0] [aI z] s = rI z s := Ze_i1 (by decide +kernel) rfl
theorem en76 : Zc (d + 1) 76 [aI a0] s = Ze d 76 0 [aI a0] [] s := rfl
theorem x120_0 : Ze d 120 0 [l0, aI z, l2, l3] st s = Ze d 120 1 [l0, aI z, l2, l3] (aI z :: st) s := Ze_n (i := (.iload_n 1)) (len := 1) (by decide +kernel) rfl
theorem x120_1 : Ze d 120 1 [l0, l1, l2, l3] st s = Ze d 120 3 [l0, l1, l2, l3] (aI 24 :: st) s := Ze_n (i := (.bipush 24)) (len := 2) (by decide +kernel) rfl
theorem x120_3 : Ze d 120 3 [l0, l1, l2, l3] (aI b :: aI a :: st) s = if a < b then Ze d 120 6 [l0, l1, l2, l3] st s else Ze d 120 10 [l0, l1, l2, l3] st s := Ze_b (i := (.if_icmp .ge 7)) (len := 3) (by decide +kernel) rfl
theorem x120_6 : Ze d 120 6 [l0, l1, aR r, l3] st s = Ze d 120 7 [l0, l1, aR r, l3] (aR r :: st) s := Ze_n (i := (.aload_n 2)) (len := 1) (by decide +kernel) rfl
theorem x120_7 : Ze d 120 7 [l0, aI z, l2, l3] st s = Ze d 120 8 [l0, aI z, l2, l3] (aI z :: st) s := Ze_n (i := (.iload_n 1)) (len := 1) (by decide +kernel) rfl
theorem x120_8 (h0 : 0 ≤ i) (h1 : i < aN1 r) : Ze d 120 8 [l0, l1, l2, l3] (aI i :: aR r :: st) s = Ze d 120 9 [l0, l1, l2, l3] (aI (s r i.toNat) :: st) s := Ze_n (i := .iaload) (len := 1) (by decide +kernel) (if_pos ⟨h0, h1⟩)
theorem x120_9 : Ze d 120 9 [l0, l1, l2, l3] [aI z] s = rI z s := Ze_i1 (by decide +kernel) rfl
theorem x120_10 : Ze d 120 10 [aR r, l1, l2, l3] st s = Ze d 120 11 [aR r, l1, l2, l3] (aR r :: st) s := Ze_n (i := (.aload_n 0)) (len := 1) (by decide +kernel) rfl
theorem x120_11 (h : obC r = 6) : Ze d 120 11 [l0, l1, l2, l3] (aR r :: st) s = Ze d 120 14 [l0, l1, l2, l3] (aR (fcn r 4) :: st) s := Ze_gf (len := 3) (idx := 24) (by decide +kernel) rfl h rfl
theorem x120_14 : Ze d 120 14 [l0, aI z, l2, l3] st s = Ze d 120 15 [l0, aI z, l2, l3] (aI z :: st) s := Ze_n (i := (.iload_n 1)) (len := 1) (by decide +kernel) rfl
theorem x120_15 (h0 : 0 ≤ i) (h1 : i < aN1 r) : Ze d 120 15 [l0, l1, l2, l3] (aI i :: aR r :: st) s = Ze d 120 16 [l0, l1, l2, l3] (aI (s r i.toNat) :: st) s := Ze_n (i := .iaload) (len := 1) (by decide +kernel) (if_pos ⟨h0, h1⟩)
theorem x120_16 : Ze d 120 16 [l0, l1, l2, l3] (aI z :: st) s = Ze d 120 17 [l0, l1, l2, aI z] st s := Ze_n (i := (.istore_n 3)) (len := 1) (by decide +kernel) rfl
theorem x120_17 : Ze d 120 17 [l0, l1, l2, aI z] st s = Ze d 120 18 [l0, l1, l2, aI z] (aI z :: st) s := Ze_n (i := (.iload_n 3)) (len := 1) (by decide +kernel) rfl
theorem x120_18 : Ze d 120 18 [l0, aI z, l2, l3] st s = Ze d 120 19 [l0, aI z, l2, l3] (aI z :: st) s := Ze_n (i := (.iload_n 1)) (len := 1) (by decide +kernel) rfl
theorem x120_19 : Ze d 120 19 [l0, l1, l2, l3] (aI b :: aI a :: st) s = if b < a then Ze d 120 50 [l0, l1, l2, l3] st s else Ze d 120 22 [l0, l1, l2, l3] st s := Ze_b (i := (.if_icmp .gt 31)) (len := 3) (by decide +kernel) rfl
theorem x120_22 : Ze d 120 22 [aR r, l1, l2, l3] st s = Ze d 120 23 [aR r, l1, l2, l3] (aR r :: st) s := Ze_n (i := (.aload_n 0)) (len := 1) (by decide +kernel) rfl
theorem x120_23 (h : obC r = 6) : Ze d 120 23 [l0, l1, l2, l3] (aR r :: st) s = Ze d 120 26 [l0, l1, l2, l3] (aR (fcn r 6) :: st) s := Ze_gf (len := 3) (idx := 30) (by decide +kernel) rfl h rfl
theorem x120_26 : Ze d 120 26 [l0, l1, l2, aI z] st s = Ze d 120 27 [l0, l1, l2, aI z] (aI z :: st) s := Ze_n (i := (.iload_n 3)) (len := 1) (by decide +kernel) rfl
theorem x120_27 : Ze d 120 27 [aR r, l1, l2, l3] st s = Ze d 120 28 [aR r, l1, l2, l3] (aR r :: st) s := Ze_n (i := (.aload_n 0)) (len := 1) (by decide +kernel) rfl
theorem x120_28 : Ze d 120 28 [l0, l1, l2, aI z] st s = Ze d 120 29 [l0, l1, l2, aI z] (aI z :: st) s := Ze_n (i := (.iload_n 3)) (len := 1) (by decide +kernel) rfl
theorem x120_29 : Ze d 120 29 [l0, l1, aR r, l3] st s = Ze d 120 30 [l0, l1, aR r, l3] (aR r :: st) s := Ze_n (i := (.aload_n 2)) (len := 1) (by decide +kernel) rfl
theorem x120_30 (h : obC r = 6) (h6 : st.length ≤ 4) : Ze d 120 30 [l0, l1, l2, l3] (aR r2 :: aI a1 :: aR r :: st) s = zcI (Zc d 121 [aR r, aI a1, aR r2] s) d 120 33 [l0, l1, l2, l3] st := Ze_cvI (idx := 55) (len := 3) (as := [aI a1, aR r2]) (by decide +kernel) rfl (by decide +kernel) rfl h h6
theorem x120_33 : Ze d 120 33 [aR r, l1, l2, l3] st s = Ze d 120 34 [aR r, l1, l2, l3] (aR r :: st) s := Ze_n (i := (.aload_n 0)) (len := 1) (by decide +kernel) rfl
theorem x120_34 (h : obC r = 6) : Ze d 120 34 [l0, l1, l2, l3] (aR r :: st) s = Ze d 120 37 [l0, l1, l2, l3] (aR (fcn r 5) :: st) s := Ze_gf (len := 3) (idx := 27) (by decide +kernel) rfl h rfl
theorem x120_37 : Ze d 120 37 [l0, l1, l2, aI z] st s = Ze d 120 38 [l0, l1, l2, aI z] (aI z :: st) s := Ze_n (i := (.iload_n 3)) (len := 1) (by decide +kernel) rfl
theorem x120_38 (h0 : 0 ≤ i) (h1 : i < aN1 r) : Ze d 120 38 [l0, l1, l2, l3] (aI i :: aR r :: st) s = Ze d 120 39 [l0, l1, l2, l3] (aI (s r i.toNat) :: st) s := Ze_n (i := .iaload) (len := 1) (by decide +kernel) (if_pos ⟨h0, h1⟩)
theorem x120_39 (h6 : st.length ≤ 4) : Ze d 120 39 [l0, l1, l2, l3] (aI a0 :: st) s = zcI (Zc d 76 [aI a0] s) d 120 42 [l0, l1, l2, l3] st := Ze_csI (idx := 58) (len := 3) (as := [aI a0]) (by decide +kernel) rfl rfl (by decide +kernel) rfl h6
theorem x120_42 : Ze d 120 42 [l0, l1, l2, l3] (aI b :: aI a :: st) s = Ze d 120 43 [l0, l1, l2, l3] (aI (iand a b) :: st) s := Ze_n (i := .iand) (len := 1) (by decide +kernel) rfl
theorem x120_43 (h0 : 0 ≤ i) (h1 : i < aN1 r) : Ze d 120 43 [l0, l1, l2, l3] (aI z :: aI i :: aR r :: st) s = Ze d 120 44 [l0, l1, l2, l3] st (mu s r i.toNat z) := Ze_n (i := .iastore) (len := 1) (by decide +kernel) (if_pos ⟨h0, h1⟩)
theorem x120_44 : Ze d 120 44 [l0, l1, l2, aI z] st s = Ze d 120 47 [l0, l1, l2, aI (wrap (z + 1))] st s := Ze_n (i := (.iinc 3 1)) (len := 3) (by decide +kernel) rfl
theorem x120_47 : Ze d 120 47 [l0, l1, l2, l3] st s = Ze d 120 17 [l0, l1, l2, l3] st s := Ze_n (i := (.goto (-30))) (len := 3) (by decide +kernel) rfl
theorem x120_50 : Ze d 120 50 [aR r, l1, l2, l3] st s = Ze d 120 51 [aR r, l1, l2, l3] (aR r :: st) s := Ze_n (i := (.aload_n 0)) (len := 1) (by decide +kernel) rfl
theorem x120_51 (h : obC r = 6) : Ze d 120 51 [l0, l1, l2, l3] (aR r :: st) s = Ze d 120 54 [l0, l1, l2, l3] (aR (fcn r 6) :: st) s := Ze_gf (len := 3) (idx := 30) (by decide +kernel) rfl h rfl
theorem x120_54 : Ze d 120 54 [l0, aI z, l2, l3] st s = Ze d 120 55 [l0, aI z, l2, l3] (aI z :: st) s := Ze_n (i := (.iload_n 1)) (len := 1) (by decide +kernel) rfl
theorem x120_55 (h0 : 0 ≤ i) (h1 : i < aN1 r) : Ze d 120 55 [l0, l1, l2, l3] (aI i :: aR r :: st) s = Ze d 120 56 [l0, l1, l2, l3] (aI (s r i.toNat) :: st) s := Ze_n (i := .iaload) (len := 1) (by decide +kernel) (if_pos ⟨h0, h1⟩)
theorem x120_56 : Ze d 120 56 [l0, l1, l2, l3] [aI z] s = rI z s := Ze_i1 (by decide +kernel) rfl
theorem en120 : Zc (d + 1) 120 [aR r, aI a1, aR r2] s = Ze d 120 0 [aR r, aI a1, aR r2, aU] [] s := rfl
theorem x121_0 : Ze d 121 0 [aR r, l1, l2, l3, l4] st s = Ze d 121 1 [aR r, l1, l2, l3, l4] (aR r :: st) s := Ze_n (i := (.aload_n 0)) (len := 1) (by decide +kernel) rfl
theorem x121_1 (h : obC r = 6) : Ze d 121 1 [l0, l1, l2, l3, l4] (aR r :: st) s = Ze d 121 4 [l0, l1, l2, l3, l4] (aR (fcn r 0) :: st) s := Ze_gf (len := 3) (idx := 9) (by decide +kernel) rfl h rfl
theorem x121_4 : Ze d 121 4 [l0, aI z, l2, l3, l4] st s = Ze d 121 5 [l0, aI z, l2, l3, l4] (aI z :: st) s := Ze_n (i := (.iload_n 1)) (len := 1) (by decide +kernel) rfl
theorem x121_5 (h0 : 0 ≤ i) (h1 : i < aN1 r) : Ze d 121 5 [l0, l1, l2, l3, l4] (aI i :: aR r :: st) s = Ze d 121 6 [l0, l1, l2, l3, l4] (aI (s r i.toNat) :: st) s := Ze_n (i := .iaload) (len := 1) (by decide +kernel) (if_pos ⟨h0, h1⟩)
theorem x121_6 : Ze d 121 6 [l0, l1, l2, l3, l4] st s = Ze d 121 7 [l0, l1, l2, l3, l4] (aI 2 :: st) s := Ze_n (i := (.iconst 2)) (len := 1) (by decide +kernel) rfl
theorem x121_7 : Ze d 121 7 [l0, l1, l2, l3, l4] (aI b :: aI a :: st) s = if a = b then Ze d 121 10 [l0, l1, l2, l3, l4] st s else Ze d 121 17 [l0, l1, l2, l3, l4] st s := Ze_b (i := (.if_icmp .ne 10)) (len := 3) (by decide +kernel) rfl
theorem x121_10 : Ze d 121 10 [aR r, l1, l2, l3, l4] st s = Ze d 121 11 [aR r, l1, l2, l3, l4] (aR r :: st) s := Ze_n (i := (.aload_n 0)) (len := 1) (by decide +kernel) rfl
theorem x121_11 (h : obC r = 6) : Ze d 121 11 [l0, l1, l2, l3, l4] (aR r :: st) s = Ze d 121 14 [l0, l1, l2, l3, l4] (aR (fcn r 1) :: st) s := Ze_gf (len := 3) (idx := 15) (by decide +kernel) rfl h rfl
theorem x121_14 : Ze d 121 14 [l0, aI z, l2, l3, l4] st s = Ze d 121 15 [l0, aI z, l2, l3, l4] (aI z :: st) s := Ze_n (i := (.iload_n 1)) (len := 1) (by decide +kernel) rfl
theorem x121_15 (h0 : 0 ≤ i) (h1 : i < aN1 r) : Ze d 121 15 [l0, l1, l2, l3, l4] (aI i :: aR r :: st) s = Ze d 121 16 [l0, l1, l2, l3, l4] (aI (s r i.toNat) :: st) s := Ze_n (i := .iaload) (len := 1) (by decide +kernel) (if_pos ⟨h0, h1⟩)
theorem x121_16 : Ze d 121 16 [l0, l1, l2, l3, l4] [aI z] s = rI z s := Ze_i1 (by decide +kernel) rfl
theorem x121_17 : Ze d 121 17 [aR r, l1, l2, l3, l4] st s = Ze d 121 18 [aR r, l1, l2, l3, l4] (aR r :: st) s := Ze_n (i := (.aload_n 0)) (len := 1) (by decide +kernel) rfl
theorem x121_18 (h : obC r = 6) : Ze d 121 18 [l0, l1, l2, l3, l4] (aR r :: st) s = Ze d 121 21 [l0, l1, l2, l3, l4] (aR (fcn r 0) :: st) s := Ze_gf (len := 3) (idx := 9) (by decide +kernel) rfl h rfl
theorem x121_21 : Ze d 121 21 [l0, aI z, l2, l3, l4] st s = Ze d 121 22 [l0, aI z, l2, l3, l4] (aI z :: st) s := Ze_n (i := (.iload_n 1)) (len := 1) (by decide +kernel) rfl
theorem x121_22 (h0 : 0 ≤ i) (h1 : i < aN1 r) : Ze d 121 22 [l0, l1, l2, l3, l4] (aI i :: aR r :: st) s = Ze d 121 23 [l0, l1, l2, l3, l4] (aI (s r i.toNat) :: st) s := Ze_n (i := .iaload) (len := 1) (by decide +kernel) (if_pos ⟨h0, h1⟩)
theorem x121_23 : Ze d 121 23 [l0, l1, l2, l3, l4] st s = Ze d 121 24 [l0, l1, l2, l3, l4] (aI 5 :: st) s := Ze_n (i := (.iconst 5)) (len := 1) (by decide +kernel) rfl
theorem x121_24 : Ze d 121 24 [l0, l1, l2, l3, l4] (aI b :: aI a :: st) s = if a = b then Ze d 121 27 [l0, l1, l2, l3, l4] st s else Ze d 121 36 [l0, l1, l2, l3, l4] st s := Ze_b (i := (.if_icmp .ne 12)) (len := 3) (by decide +kernel) rfl
theorem x121_27 : Ze d 121 27 [l0, l1, aR r, l3, l4] st s = Ze d 121 28 [l0, l1, aR r, l3, l4] (aR r :: st) s := Ze_n (i := (.aload_n 2)) (len := 1) (by decide +kernel) rfl
theorem x121_28 : Ze d 121 28 [aR r, l1, l2, l3, l4] st s = Ze d 121 29 [aR r, l1, l2, l3, l4] (aR r :: st) s := Ze_n (i := (.aload_n 0)) (len := 1) (by decide +kernel) rfl
theorem x121_29 (h : obC r = 6) : Ze d 121 29 [l0, l1, l2, l3, l4] (aR r :: st) s = Ze d 121 32 [l0, l1, l2, l3, l4] (aR (fcn r 1) :: st) s := Ze_gf (len := 3) (idx := 15) (by decide +kernel) rfl h rfl
theorem x121_32 : Ze d 121 32 [l0, aI z, l2, l3, l4] st s = Ze d 121 33 [l0, aI z, l2, l3, l4] (aI z :: st) s := Ze_n (i := (.iload_n 1)) (len := 1) (by decide +kernel) rfl
theorem x121_33 (h0 : 0 ≤ i) (h1 : i < aN1 r) : Ze d 121 33 [l0, l1, l2, l3, l4] (aI i :: aR r :: st) s = Ze d 121 34 [l0, l1, l2, l3, l4] (aI (s r i.toNat) :: st) s := Ze_n (i := .iaload) (len := 1) (by decide +kernel) (if_pos ⟨h0, h1⟩)
theorem x121_34 (h0 : 0 ≤ i) (h1 : i < aN1 r) : Ze d 121 34 [l0, l1, l2, l3, l4] (aI i :: aR r :: st) s = Ze d 121 35 [l0, l1, l2, l3, l4] (aI (s r i.toNat) :: st) s := Ze_n (i := .iaload) (len := 1) (by decide +kernel) (if_pos ⟨h0, h1⟩)
theorem x121_35 : Ze d 121 35 [l0, l1, l2, l3, l4] [aI z] s = rI z s := Ze_i1 (by decide +kernel) rfl
theorem x121_36 : Ze d 121 36 [aR r, l1, l2, l3, l4] st s = Ze d 121 37 [aR r, l1, l2, l3, l4] (aR r :: st) s := Ze_n (i := (.aload_n 0)) (len := 1) (by decide +kernel) rfl
theorem x121_37 (h : obC r = 6) : Ze d 121 37 [l0, l1, l2, l3, l4] (aR r :: st) s = Ze d 121 40 [l0, l1, l2, l3, l4] (aR (fcn r 6) :: st) s := Ze_gf (len := 3) (idx := 30) (by decide +kernel) rfl h rfl
theorem x121_40 : Ze d 121 40 [aR r, l1, l2, l3, l4] st s = Ze d 121 41 [aR r, l1, l2, l3, l4] (aR r :: st) s := Ze_n (i := (.aload_n 0)) (len := 1) (by decide +kernel) rfl
theorem x121_41 (h : obC r = 6) : Ze d 121 41 [l0, l1, l2, l3, l4] (aR r :: st) s = Ze d 121 44 [l0, l1, l2, l3, l4] (aR (fcn r 1) :: st) s := Ze_gf (len := 3) (idx := 15) (by decide +kernel) rfl h rfl
theorem x121_44 : Ze d 121 44 [l0, aI z, l2, l3, l4] st s = Ze d 121 45 [l0, aI z, l2, l3, l4] (aI z :: st) s := Ze_n (i := (.iload_n 1)) (len := 1) (by decide +kernel) rfl
theorem x121_45 (h0 : 0 ≤ i) (h1 : i < aN1 r) : Ze d 121 45 [l0, l1, l2, l3, l4] (aI i :: aR r :: st) s = Ze d 121 46 [l0, l1, l2, l3, l4] (aI (s r i.toNat) :: st) s := Ze_n (i := .iaload) (len := 1) (by decide +kernel) (if_pos ⟨h0, h1⟩)
theorem x121_46 (h0 : 0 ≤ i) (h1 : i < aN1 r) : Ze d 121 46 [l0, l1, l2, l3, l4] (aI i :: aR r :: st) s = Ze d 121 47 [l0, l1, l2, l3, l4] (aI (s r i.toNat) :: st) s := Ze_n (i := .iaload) (len := 1) (by decide +kernel) (if_pos ⟨h0, h1⟩)
theorem x121_47 : Ze d 121 47 [l0, l1, l2, l3, l4] (aI z :: st) s = Ze d 121 48 [l0, l1, l2, aI z, l4] st s := Ze_n (i := (.istore_n 3)) (len := 1) (by decide +kernel) rfl
theorem x121_48 : Ze d 121 48 [aR r, l1, l2, l3, l4] st s = Ze d 121 49 [aR r, l1, l2, l3, l4] (aR r :: st) s := Ze_n (i := (.aload_n 0)) (len := 1) (by decide +kernel) rfl
theorem x121_49 (h : obC r = 6) : Ze d 121 49 [l0, l1, l2, l3, l4] (aR r :: st) s = Ze d 121 52 [l0, l1, l2, l3, l4] (aR (fcn r 0) :: st) s := Ze_gf (len := 3) (idx := 9) (by decide +kernel) rfl h rfl
theorem x121_52 : Ze d 121 52 [l0, aI z, l2, l3, l4] st s = Ze d 121 53 [l0, aI z, l2, l3, l4] (aI z :: st) s := Ze_n (i := (.iload_n 1)) (len := 1) (by decide +kernel) rfl
theorem x121_53 (h0 : 0 ≤ i) (h1 : i < aN1 r) : Ze d 121 53 [l0, l1, l2, l3, l4] (aI i :: aR r :: st) s = Ze d 121 54 [l0, l1, l2, l3, l4] (aI (s r i.toNat) :: st) s := Ze_n (i := .iaload) (len := 1) (by decide +kernel) (if_pos ⟨h0, h1⟩)
theorem x121_54 : Ze d 121 54 [l0, l1, l2, l3, l4] st s = Ze d 121 56 [l0, l1, l2, l3, l4] (aI 84 :: st) s := Ze_n (i := (.bipush 84)) (len := 2) (by decide +kernel) rfl
theorem x121_56 : Ze d 121 56 [l0, l1, l2, l3, l4] (aI b :: aI a :: st) s = if a = b then Ze d 121 59 [l0, l1, l2, l3, l4] st s else Ze d 121 68 [l0, l1, l2, l3, l4] st s := Ze_b (i := (.if_icmp .ne 12)) (len := 3) (by decide +kernel) rfl
theorem x121_59 : Ze d 121 59 [l0, l1, l2, aI z, l4] st s = Ze d 121 60 [l0, l1, l2, aI z, l4] (aI z :: st) s := Ze_n (i := (.iload_n 3)) (len := 1) (by decide +kernel) rfl
theorem x121_60 : Ze d 121 60 [aR r, l1, l2, l3, l4] st s = Ze d 121 61 [aR r, l1, l2, l3, l4] (aR r :: st) s := Ze_n (i := (.aload_n 0)) (len := 1) (by decide +kernel) rfl
theorem x121_61 (h : obC r = 6) : Ze d 121 61 [l0, l1, l2, l3, l4] (aR r :: st) s = Ze d 121 64 [l0, l1, l2, l3, l4] (aR (fcn r 3) :: st) s := Ze_gf (len := 3) (idx := 21) (by decide +kernel) rfl h rfl
theorem x121_64 : Ze d 121 64 [l0, aI z, l2, l3, l4] st s = Ze d 121 65 [l0, aI z, l2, l3, l4] (aI z :: st) s := Ze_n (i := (.iload_n 1)) (len := 1) (by decide +kernel) rfl
theorem x121_65 (h0 : 0 ≤ i) (h1 : i < aN1 r) : Ze d 121 65 [l0, l1, l2, l3, l4] (aI i :: aR r :: st) s = Ze d 121 66 [l0, l1, l2, l3, l4] (aI (s r i.toNat) :: st) s := Ze_n (i := .iaload) (len := 1) (by decide +kernel) (if_pos ⟨h0, h1⟩)
theorem x121_66 : Ze d 121 66 [l0, l1, l2, l3, l4] (aI b :: aI a :: st) s = Ze d 121 67 [l0, l1, l2, l3, l4] (aI (ishr a b) :: st) s := Ze_n (i := .ishr) (len := 1) (by decide +kernel) rfl
theorem x121_67 : Ze d 121 67 [l0, l1, l2, l3, l4] [aI z] s = rI z s := Ze_i1 (by decide +kernel) rfl
theorem x121_68 : Ze d 121 68 [aR r, l1, l2, l3, l4] st s = Ze d 121 69 [aR r, l1, l2, l3, l4] (aR r :: st) s := Ze_n (i := (.aload_n 0)) (len := 1) (by decide +kernel) rfl
theorem x121_69 (h : obC r = 6) : Ze d 121 69 [l0, l1, l2, l3, l4] (aR r :: st) s = Ze d 121 72 [l0, l1, l2, l3, l4] (aR (fcn r 0) :: st) s := Ze_gf (len := 3) (idx := 9) (by decide +kernel) rfl h rfl
theorem x121_72 : Ze d 121 72 [l0, aI z, l2, l3, l4] st s = Ze d 121 73 [l0, aI z, l2, l3, l4] (aI z :: st) s := Ze_n (i := (.iload_n 1)) (len := 1) (by decide +kernel) rfl
theorem x121_73 (h0 : 0 ≤ i) (h1 : i < aN1 r) : Ze d 121 73 [l0, l1, l2, l3, l4] (aI i :: aR r :: st) s = Ze d 121 74 [l0, l1, l2, l3, l4] (aI (s r i.toNat) :: st) s := Ze_n (i := .iaload) (len := 1) (by decide +kernel) (if_pos ⟨h0, h1⟩)
theorem x121_74 : Ze d 121 74 [l0, l1, l2, l3, l4] st s = Ze d 121 76 [l0, l1, l2, l3, l4] (aI 33 :: st) s := Ze_n (i := (.bipush 33)) (len := 2) (by decide +kernel) rfl
theorem x121_76 : Ze d 121 76 [l0, l1, l2, l3, l4] (aI b :: aI a :: st) s = if a = b then Ze d 121 79 [l0, l1, l2, l3, l4] st s else Ze d 121 83 [l0, l1, l2, l3, l4] st s := Ze_b (i := (.if_icmp .ne 7)) (len := 3) (by decide +kernel) rfl
theorem x121_79 : Ze d 121 79 [l0, l1, l2, aI z, l4] st s = Ze d 121 80 [l0, l1, l2, aI z, l4] (aI z :: st) s := Ze_n (i := (.iload_n 3)) (len := 1) (by decide +kernel) rfl
theorem x121_80 : Ze d 121 80 [l0, l1, l2, l3, l4] st s = Ze d 121 81 [l0, l1, l2, l3, l4] (aI (-1) :: st) s := Ze_n (i := (.iconst (-1))) (len := 1) (by decide +kernel) rfl
theorem x121_81 : Ze d 121 81 [l0, l1, l2, l3, l4] (aI b :: aI a :: st) s = Ze d 121 82 [l0, l1, l2, l3, l4] (aI (ixor a b) :: st) s := Ze_n (i := .ixor) (len := 1) (by decide +kernel) rfl
theorem x121_82 : Ze d 121 82 [l0, l1, l2, l3, l4] [aI z] s = rI z s := Ze_i1 (by decide +kernel) rfl
theorem x121_83 : Ze d 121 83 [aR r, l1, l2, l3, l4] st s = Ze d 121 84 [aR r, l1, l2, l3, l4] (aR r :: st) s := Ze_n (i := (.aload_n 0)) (len := 1) (by decide +kernel) rfl
theorem x121_84 (h : obC r = 6) : Ze d 121 84 [l0, l1, l2, l3, l4] (aR r :: st) s = Ze d 121 87 [l0, l1, l2, l3, l4] (aR (fcn r 6) :: st) s := Ze_gf (len := 3) (idx := 30) (by decide +kernel) rfl h rfl
theorem x121_87 : Ze d 121 87 [aR r, l1, l2, l3, l4] st s = Ze d 121 88 [aR r, l1, l2, l3, l4] (aR r :: st) s := Ze_n (i := (.aload_n 0)) (len := 1) (by decide +kernel) rfl
theorem x121_88 (h : obC r = 6) : Ze d 121 88 [l0, l1, l2, l3, l4] (aR r :: st) s = Ze d 121 91 [l0, l1, l2, l3, l4] (aR (fcn r 2) :: st) s := Ze_gf (len := 3) (idx := 18) (by decide +kernel) rfl h rfl
theorem x121_91 : Ze d 121 91 [l0, aI z, l2, l3, l4] st s = Ze d 121 92 [l0, aI z, l2, l3, l4] (aI z :: st) s := Ze_n (i := (.iload_n 1)) (len := 1) (by decide +kernel) rfl
theorem x121_92 (h0 : 0 ≤ i) (h1 : i < aN1 r) : Ze d 121 92 [l0, l1, l2, l3, l4] (aI i :: aR r :: st) s = Ze d 121 93 [l0, l1, l2, l3, l4] (aI (s r i.toNat) :: st) s := Ze_n (i := .iaload) (len := 1) (by decide +kernel) (if_pos ⟨h0, h1⟩)
theorem x121_93 (h0 : 0 ≤ i) (h1 : i < aN1 r) : Ze d 121 93 [l0, l1, l2, l3, l4] (aI i :: aR r :: st) s = Ze d 121 94 [l0, l1, l2, l3, l4] (aI (s r i.toNat) :: st) s := Ze_n (i := .iaload) (len := 1) (by decide +kernel) (if_pos ⟨h0, h1⟩)
theorem x121_94 : Ze d 121 94 [l0, l1, l2, l3, l4] (aI z :: st) s = Ze d 121 96 [l0, l1, l2, l3, aI z] st s := Ze_n (i := (.istore 4)) (len := 2) (by decide +kernel) rfl
theorem x121_96 : Ze d 121 96 [aR r, l1, l2, l3, l4] st s = Ze d 121 97 [aR r, l1, l2, l3, l4] (aR r :: st) s := Ze_n (i := (.aload_n 0)) (len := 1) (by decide +kernel) rfl
theorem x121_97 (h : obC r = 6) : Ze d 121 97 [l0, l1, l2, l3, l4] (aR r :: st) s = Ze d 121 100 [l0, l1, l2, l3, l4] (aR (fcn r 0) :: st) s := Ze_gf (len := 3) (idx := 9) (by decide +kernel) rfl h rfl
theorem x121_100 : Ze d 121 100 [l0, aI z, l2, l3, l4] st s = Ze d 121 101 [l0, aI z, l2, l3, l4] (aI z :: st) s := Ze_n (i := (.iload_n 1)) (len := 1) (by decide +kernel) rfl
theorem x121_101 (h0 : 0 ≤ i) (h1 : i < aN1 r) : Ze d 121 101 [l0, l1, l2, l3, l4] (aI i :: aR r :: st) s = Ze d 121 102 [l0, l1, l2, l3, l4] (aI (s r i.toNat) :: st) s := Ze_n (i := .iaload) (len := 1) (by decide +kernel) (if_pos ⟨h0, h1⟩)
theorem x121_102 : Ze d 121 102 [l0, l1, l2, l3, l4] st s = Ze d 121 104 [l0, l1, l2, l3, l4] (aI 77 :: st) s := Ze_n (i := (.bipush 77)) (len := 2) (by decide +kernel) rfl
theorem x121_104 : Ze d 121 104 [l0, l1, l2, l3, l4] (aI b :: aI a :: st) s = if a = b then Ze d 121 107 [l0, l1, l2, l3, l4] st s else Ze d 121 128 [l0, l1, l2, l3, l4] st s := Ze_b (i := (.if_icmp .ne 24)) (len := 3) (by decide +kernel) rfl
theorem x121_107 : Ze d 121 107 [l0, l1, l2, aI z, l4] st s = Ze d 121 108 [l0, l1, l2, aI z, l4] (aI z :: st) s := Ze_n (i := (.iload_n 3)) (len := 1) (by decide +kernel) rfl
theorem x121_108 : Ze d 121 108 [l0, l1, l2, l3, l4] (aI a :: st) s = if a = 0 then Ze d 121 116 [l0, l1, l2, l3, l4] st s else Ze d 121 111 [l0, l1, l2, l3, l4] st s := Ze_b (i := (.ifCond .eq 8)) (len := 3) (by decide +kernel) rfl
theorem x121_111 : Ze d 121 111 [l0, l1, l2, l3, aI z] st s = Ze d 121 113 [l0, l1, l2, l3, aI z] (aI z :: st) s := Ze_n (i := (.iload 4)) (len := 2) (by decide +kernel) rfl
theorem x121_113 : Ze d 121 113 [l0, l1, l2, l3, l4] st s = Ze d 121 127 [l0, l1, l2, l3, l4] st s := Ze_n (i := (.goto 14)) (len := 3) (by decide +kernel) rfl
theorem x121_116 : Ze d 121 116 [aR r, l1, l2, l3, l4] st s = Ze d 121 117 [aR r, l1, l2, l3, l4] (aR r :: st) s := Ze_n (i := (.aload_n 0)) (len := 1) (by decide +kernel) rfl
theorem x121_117 (h : obC r = 6) : Ze d 121 117 [l0, l1, l2, l3, l4] (aR r :: st) s = Ze d 121 120 [l0, l1, l2, l3, l4] (aR (fcn r 6) :: st) s := Ze_gf (len := 3) (idx := 30) (by decide +kernel) rfl h rfl
theorem x121_120 : Ze d 121 120 [aR r, l1, l2, l3, l4] st s = Ze d 121 121 [aR r, l1, l2, l3, l4] (aR r :: st) s := Ze_n (i := (.aload_n 0)) (len := 1) (by decide +kernel) rfl
theorem x121_121 (h : obC r = 6) : Ze d 121 121 [l0, l1, l2, l3, l4] (aR r :: st) s = Ze d 121 124 [l0, l1, l2, l3, l4] (aR (fcn r 3) :: st) s := Ze_gf (len := 3) (idx := 21) (by decide +kernel) rfl h rfl
theorem x121_124 : Ze d 121 124 [l0, aI z, l2, l3, l4] st s = Ze d 121 125 [l0, aI z, l2, l3, l4] (aI z :: st) s := Ze_n (i := (.iload_n 1)) (len := 1) (by decide +kernel) rfl
theorem x121_125 (h0 : 0 ≤ i) (h1 : i < aN1 r) : Ze d 121 125 [l0, l1, l2, l3, l4] (aI i :: aR r :: st) s = Ze d 121 126 [l0, l1, l2, l3, l4] (aI (s r i.toNat) :: st) s := Ze_n (i := .iaload) (len := 1) (by decide +kernel) (if_pos ⟨h0, h1⟩)
theorem x121_126 (h0 : 0 ≤ i) (h1 : i < aN1 r) : Ze d 121 126 [l0, l1, l2, l3, l4] (aI i :: aR r :: st) s = Ze d 121 127 [l0, l1, l2, l3, l4] (aI (s r i.toNat) :: st) s := Ze_n (i := .iaload) (len := 1) (by decide +kernel) (if_pos ⟨h0, h1⟩)
theorem x121_127 : Ze d 121 127 [l0, l1, l2, l3, l4] [aI z] s = rI z s := Ze_i1 (by decide +kernel) rfl
theorem x121_128 : Ze d 121 128 [aR r, l1, l2, l3, l4] st s = Ze d 121 129 [aR r, l1, l2, l3, l4] (aR r :: st) s := Ze_n (i := (.aload_n 0)) (len := 1) (by decide +kernel) rfl
theorem x121_129 : Ze d 121 129 [l0, aI z, l2, l3, l4] st s = Ze d 121 130 [l0, aI z, l2, l3, l4] (aI z :: st) s := Ze_n (i := (.iload_n 1)) (len := 1) (by decide +kernel) rfl
theorem x121_130 : Ze d 121 130 [l0, l1, l2, aI z, l4] st s = Ze d 121 131 [l0, l1, l2, aI z, l4] (aI z :: st) s := Ze_n (i := (.iload_n 3)) (len := 1) (by decide +kernel) rfl
theorem x121_131 : Ze d 121 131 [l0, l1, l2, l3, aI z] st s = Ze d 121 133 [l0, l1, l2, l3, aI z] (aI z :: st) s := Ze_n (i := (.iload 4)) (len := 2) (by decide +kernel) rfl
theorem x121_133 (h : obC r = 6) (h6 : st.length ≤ 4) : Ze d 121 133 [l0, l1, l2, l3, l4] (aI a3 :: aI a2 :: aI a1 :: aR r :: st) s = zcI (Zc d 122 [aR r, aI a1, aI a2, aI a3] s) d 121 136 [l0, l1, l2, l3, l4] st := Ze_cvI (idx := 61) (len := 3) (as := [aI a1, aI a2, aI a3]) (by decide +kernel) rfl (by decide +kernel) rfl h h6
theorem x121_136 : Ze d 121 136 [l0, l1, l2, l3, l4] [aI z] s = rI z s := Ze_i1 (by decide +kernel) rfl
theorem en121 : Zc (d + 1) 121 [aR r, aI a1, aR r2] s = Ze d 121 0 [aR r, aI a1, aR r2, aU, aU] [] s := rfl
theorem x122_0 : Ze d 122 0 [aR r, l1, l2, l3] st s = Ze d 122 1 [aR r, l1, l2, l3] (aR r :: st) s := Ze_n (i := (.aload_n 0)) (len := 1) (by decide +kernel) rfl
theorem x122_1 (h : obC r = 6) : Ze d 122 1 [l0, l1, l2, l3] (aR r :: st) s = Ze d 122 4 [l0, l1, l2, l3] (aR (fcn r 0) :: st) s := Ze_gf (len := 3) (idx := 9) (by decide +kernel) rfl h rfl
theorem x122_4 : Ze d 122 4 [l0, aI z, l2, l3] st s = Ze d 122 5 [l0, aI z, l2, l3] (aI z :: st) s := Ze_n (i := (.iload_n 1)) (len := 1) (by decide +kernel) rfl
theorem x122_5 (h0 : 0 ≤ i) (h1 : i < aN1 r) : Ze d 122 5 [l0, l1, l2, l3] (aI i :: aR r :: st) s = Ze d 122 6 [l0, l1, l2, l3] (aI (s r i.toNat) :: st) s := Ze_n (i := .iaload) (len := 1) (by decide +kernel) (if_pos ⟨h0, h1⟩)
theorem x122_6 : Ze d 122 6 [l0, l1, l2, l3] (aI a :: st) s = if a = 38 then Ze d 122 80 [l0, l1, l2, l3] st s else if a = 43 then Ze d 122 72 [l0, l1, l2, l3] st s else if a = 45 then Ze d 122 76 [l0, l1, l2, l3] st s else if a = 60 then Ze d 122 103 [l0, l1, l2, l3] st s else if a = 61 then Ze d 122 92 [l0, l1, l2, l3] st s else if a = 94 then Ze d 122 88 [l0, l1, l2, l3] st s else if a = 124 then Ze d 122 84 [l0, l1, l2, l3] st s else Ze d 122 114 [l0, l1, l2, l3] st s :=
  Ze_lk (dflt := 108) (ps := #[(38, 74), (43, 66), (45, 70), (60, 97), (61, 86), (94, 82), (124, 78)]) (len := 66) (ks := [(38, 80), (43, 72), (45, 76), (60, 103), (61, 92), (94, 88), (124, 84)]) (df := 114) (by decide +kernel) (by decide +kernel) (by decide +kernel)
theorem x122_72 : Ze d 122 72 [l0, l1, aI z, l3] st s = Ze d 122 73 [l0, l1, aI z, l3] (aI z :: st) s := Ze_n (i := (.iload_n 2)) (len := 1) (by decide +kernel) rfl
theorem x122_73 : Ze d 122 73 [l0, l1, l2, aI z] st s = Ze d 122 74 [l0, l1, l2, aI z] (aI z :: st) s := Ze_n (i := (.iload_n 3)) (len := 1) (by decide +kernel) rfl
theorem x122_74 : Ze d 122 74 [l0, l1, l2, l3] (aI b :: aI a :: st) s = Ze d 122 75 [l0, l1, l2, l3] (aI (wrap (a + b)) :: st) s := Ze_n (i := .iadd) (len := 1) (by decide +kernel) rfl
theorem x122_75 : Ze d 122 75 [l0, l1, l2, l3] [aI z] s = rI z s := Ze_i1 (by decide +kernel) rfl
theorem x122_76 : Ze d 122 76 [l0, l1, aI z, l3] st s = Ze d 122 77 [l0, l1, aI z, l3] (aI z :: st) s := Ze_n (i := (.iload_n 2)) (len := 1) (by decide +kernel) rfl
theorem x122_77 : Ze d 122 77 [l0, l1, l2, aI z] st s = Ze d 122 78 [l0, l1, l2, aI z] (aI z :: st) s := Ze_n (i := (.iload_n 3)) (len := 1) (by decide +kernel) rfl
theorem x122_78 : Ze d 122 78 [l0, l1, l2, l3] (aI b :: aI a :: st) s = Ze d 122 79 [l0, l1, l2, l3] (aI (wrap (a - b)) :: st) s := Ze_n (i := .isub) (len := 1) (by decide +kernel) rfl
theorem x122_79 : Ze d 122 79 [l0, l1, l2, l3] [aI z] s = rI z s := Ze_i1 (by decide +kernel) rfl
theorem x122_80 : Ze d 122 80 [l0, l1, aI z, l3] st s = Ze d 122 81 [l0, l1, aI z, l3] (aI z :: st) s := Ze_n (i := (.iload_n 2)) (len := 1) (by decide +kernel) rfl
theorem x122_81 : Ze d 122 81 [l0, l1, l2, aI z] st s = Ze d 122 82 [l0, l1, l2, aI z] (aI z :: st) s := Ze_n (i := (.iload_n 3)) (len := 1) (by decide +kernel) rfl
theorem x122_82 : Ze d 122 82 [l0, l1, l2, l3] (aI b :: aI a :: st) s = Ze d 122 83 [l0, l1, l2, l3] (aI (iand a b) :: st) s := Ze_n (i := .iand) (len := 1) (by decide +kernel) rfl
theorem x122_83 : Ze d 122 83 [l0, l1, l2, l3] [aI z] s = rI z s := Ze_i1 (by decide +kernel) rfl
theorem x122_84 : Ze d 122 84 [l0, l1, aI z, l3] st s = Ze d 122 85 [l0, l1, aI z, l3] (aI z :: st) s := Ze_n (i := (.iload_n 2)) (len := 1) (by decide +kernel) rfl
theorem x122_85 : Ze d 122 85 [l0, l1, l2, aI z] st s = Ze d 122 86 [l0, l1, l2, aI z] (aI z :: st) s := Ze_n (i := (.iload_n 3)) (len := 1) (by decide +kernel) rfl
theorem x122_86 : Ze d 122 86 [l0, l1, l2, l3] (aI b :: aI a :: st) s = Ze d 122 87 [l0, l1, l2, l3] (aI (ior a b) :: st) s := Ze_n (i := .ior) (len := 1) (by decide +kernel) rfl
theorem x122_87 : Ze d 122 87 [l0, l1, l2, l3] [aI z] s = rI z s := Ze_i1 (by decide +kernel) rfl
theorem x122_88 : Ze d 122 88 [l0, l1, aI z, l3] st s = Ze d 122 89 [l0, l1, aI z, l3] (aI z :: st) s := Ze_n (i := (.iload_n 2)) (len := 1) (by decide +kernel) rfl
theorem x122_89 : Ze d 122 89 [l0, l1, l2, aI z] st s = Ze d 122 90 [l0, l1, l2, aI z] (aI z :: st) s := Ze_n (i := (.iload_n 3)) (len := 1) (by decide +kernel) rfl
theorem x122_90 : Ze d 122 90 [l0, l1, l2, l3] (aI b :: aI a :: st) s = Ze d 122 91 [l0, l1, l2, l3] (aI (ixor a b) :: st) s := Ze_n (i := .ixor) (len := 1) (by decide +kernel) rfl
theorem x122_91 : Ze d 122 91 [l0, l1, l2, l3] [aI z] s = rI z s := Ze_i1 (by decide +kernel) rfl
theorem x122_92 : Ze d 122 92 [l0, l1, aI z, l3] st s = Ze d 122 93 [l0, l1, aI z, l3] (aI z :: st) s := Ze_n (i := (.iload_n 2)) (len := 1) (by decide +kernel) rfl
theorem x122_93 : Ze d 122 93 [l0, l1, l2, aI z] st s = Ze d 122 94 [l0, l1, l2, aI z] (aI z :: st) s := Ze_n (i := (.iload_n 3)) (len := 1) (by decide +kernel) rfl
theorem x122_94 : Ze d 122 94 [l0, l1, l2, l3] (aI b :: aI a :: st) s = if a = b then Ze d 122 97 [l0, l1, l2, l3] st s else Ze d 122 101 [l0, l1, l2, l3] st s := Ze_b (i := (.if_icmp .ne 7)) (len := 3) (by decide +kernel) rfl
theorem x122_97 : Ze d 122 97 [l0, l1, l2, l3] st s = Ze d 122 98 [l0, l1, l2, l3] (aI 1 :: st) s := Ze_n (i := (.iconst 1)) (len := 1) (by decide +kernel) rfl
theorem x122_98 : Ze d 122 98 [l0, l1, l2, l3] st s = Ze d 122 102 [l0, l1, l2, l3] st s := Ze_n (i := (.goto 4)) (len := 3) (by decide +kernel) rfl
theorem x122_101 : Ze d 122 101 [l0, l1, l2, l3] st s = Ze d 122 102 [l0, l1, l2, l3] (aI 0 :: st) s := Ze_n (i := (.iconst 0)) (len := 1) (by decide +kernel) rfl
theorem x122_102 : Ze d 122 102 [l0, l1, l2, l3] [aI z] s = rI z s := Ze_i1 (by decide +kernel) rfl
theorem x122_103 : Ze d 122 103 [l0, l1, aI z, l3] st s = Ze d 122 104 [l0, l1, aI z, l3] (aI z :: st) s := Ze_n (i := (.iload_n 2)) (len := 1) (by decide +kernel) rfl
theorem x122_104 : Ze d 122 104 [l0, l1, l2, aI z] st s = Ze d 122 105 [l0, l1, l2, aI z] (aI z :: st) s := Ze_n (i := (.iload_n 3)) (len := 1) (by decide +kernel) rfl
theorem x122_105 : Ze d 122 105 [l0, l1, l2, l3] (aI b :: aI a :: st) s = if a < b then Ze d 122 108 [l0, l1, l2, l3] st s else Ze d 122 112 [l0, l1, l2, l3] st s := Ze_b (i := (.if_icmp .ge 7)) (len := 3) (by decide +kernel) rfl
theorem x122_108 : Ze d 122 108 [l0, l1, l2, l3] st s = Ze d 122 109 [l0, l1, l2, l3] (aI 1 :: st) s := Ze_n (i := (.iconst 1)) (len := 1) (by decide +kernel) rfl
theorem x122_109 : Ze d 122 109 [l0, l1, l2, l3] st s = Ze d 122 113 [l0, l1, l2, l3] st s := Ze_n (i := (.goto 4)) (len := 3) (by decide +kernel) rfl
theorem x122_112 : Ze d 122 112 [l0, l1, l2, l3] st s = Ze d 122 113 [l0, l1, l2, l3] (aI 0 :: st) s := Ze_n (i := (.iconst 0)) (len := 1) (by decide +kernel) rfl
theorem x122_113 : Ze d 122 113 [l0, l1, l2, l3] [aI z] s = rI z s := Ze_i1 (by decide +kernel) rfl
theorem x122_114 : Ze d 122 114 [l0, l1, aI z, l3] st s = Ze d 122 115 [l0, l1, aI z, l3] (aI z :: st) s := Ze_n (i := (.iload_n 2)) (len := 1) (by decide +kernel) rfl
theorem x122_115 : Ze d 122 115 [aR r, l1, l2, l3] st s = Ze d 122 116 [aR r, l1, l2, l3] (aR r :: st) s := Ze_n (i := (.aload_n 0)) (len := 1) (by decide +kernel) rfl
theorem x122_116 (h : obC r = 6) : Ze d 122 116 [l0, l1, l2, l3] (aR r :: st) s = Ze d 122 119 [l0, l1, l2, l3] (aR (fcn r 5) :: st) s := Ze_gf (len := 3) (idx := 27) (by decide +kernel) rfl h rfl
theorem x122_119 : Ze d 122 119 [aR r, l1, l2, l3] st s = Ze d 122 120 [aR r, l1, l2, l3] (aR r :: st) s := Ze_n (i := (.aload_n 0)) (len := 1) (by decide +kernel) rfl
theorem x122_120 (h : obC r = 6) : Ze d 122 120 [l0, l1, l2, l3] (aR r :: st) s = Ze d 122 123 [l0, l1, l2, l3] (aR (fcn r 2) :: st) s := Ze_gf (len := 3) (idx := 18) (by decide +kernel) rfl h rfl
theorem x122_123 : Ze d 122 123 [l0, aI z, l2, l3] st s = Ze d 122 124 [l0, aI z, l2, l3] (aI z :: st) s := Ze_n (i := (.iload_n 1)) (len := 1) (by decide +kernel) rfl
theorem x122_124 (h0 : 0 ≤ i) (h1 : i < aN1 r) : Ze d 122 124 [l0, l1, l2, l3] (aI i :: aR r :: st) s = Ze d 122 125 [l0, l1, l2, l3] (aI (s r i.toNat) :: st) s := Ze_n (i := .iaload) (len := 1) (by decide +kernel) (if_pos ⟨h0, h1⟩)
theorem x122_125 (h0 : 0 ≤ i) (h1 : i < aN1 r) : Ze d 122 125 [l0, l1, l2, l3] (aI i :: aR r :: st) s = Ze d 122 126 [l0, l1, l2, l3] (aI (s r i.toNat) :: st) s := Ze_n (i := .iaload) (len := 1) (by decide +kernel) (if_pos ⟨h0, h1⟩)
theorem x122_126 : Ze d 122 126 [l0, l1, l2, l3] (aI b :: aI a :: st) s = Ze d 122 127 [l0, l1, l2, l3] (aI (ishl a b) :: st) s := Ze_n (i := .ishl) (len := 1) (by decide +kernel) rfl
theorem x122_127 : Ze d 122 127 [l0, l1, l2, aI z] st s = Ze d 122 128 [l0, l1, l2, aI z] (aI z :: st) s := Ze_n (i := (.iload_n 3)) (len := 1) (by decide +kernel) rfl
theorem x122_128 : Ze d 122 128 [l0, l1, l2, l3] (aI b :: aI a :: st) s = Ze d 122 129 [l0, l1, l2, l3] (aI (ior a b) :: st) s := Ze_n (i := .ior) (len := 1) (by decide +kernel) rfl
theorem x122_129 : Ze d 122 129 [l0, l1, l2, l3] [aI z] s = rI z s := Ze_i1 (by decide +kernel) rfl
theorem en122 : Zc (d + 1) 122 [aR r, aI a1, aI a2, aI a3] s = Ze d 122 0 [aR r, aI a1, aI a2, aI a3] [] s := rfl
theorem x90_0 : Ze d 90 0 [l0, aI z] st s = Ze d 90 1 [l0, aI z] (aI z :: st) s := Ze_n (i := (.iload_n 1)) (len := 1) (by decide +kernel) rfl
theorem x90_1 : Ze d 90 1 [l0, l1] (aI a :: st) s = if a < 0 then Ze d 90 19 [l0, l1] st s else Ze d 90 4 [l0, l1] st s := Ze_b (i := (.ifCond .lt 18)) (len := 3) (by decide +kernel) rfl
theorem x90_4 : Ze d 90 4 [l0, aI z] st s = Ze d 90 5 [l0, aI z] (aI z :: st) s := Ze_n (i := (.iload_n 1)) (len := 1) (by decide +kernel) rfl
theorem x90_5 : Ze d 90 5 [aR r, l1] st s = Ze d 90 6 [aR r, l1] (aR r :: st) s := Ze_n (i := (.aload_n 0)) (len := 1) (by decide +kernel) rfl
theorem x90_6 (h : obC r = 3) : Ze d 90 6 [l0, l1] (aR r :: st) s = Ze d 90 9 [l0, l1] (aR (fcn r 0) :: st) s := Ze_gf (len := 3) (idx := 12) (by decide +kernel) rfl h rfl
theorem x90_9 (h : obC r = 8) : Ze d 90 9 [l0, l1] (aR r :: st) s = Ze d 90 12 [l0, l1] (aI (s r 6) :: st) s := Ze_gf (len := 3) (idx := 56) (by decide +kernel) rfl h rfl
theorem x90_12 : Ze d 90 12 [l0, l1] (aI b :: aI a :: st) s = if a < b then Ze d 90 15 [l0, l1] st s else Ze d 90 19 [l0, l1] st s := Ze_b (i := (.if_icmp .ge 7)) (len := 3) (by decide +kernel) rfl
theorem x90_15 : Ze d 90 15 [l0, l1] st s = Ze d 90 16 [l0, l1] (aI 1 :: st) s := Ze_n (i := (.iconst 1)) (len := 1) (by decide +kernel) rfl
theorem x90_16 : Ze d 90 16 [l0, l1] st s = Ze d 90 20 [l0, l1] st s := Ze_n (i := (.goto 4)) (len := 3) (by decide +kernel) rfl
theorem x90_19 : Ze d 90 19 [l0, l1] st s = Ze d 90 20 [l0, l1] (aI 0 :: st) s := Ze_n (i := (.iconst 0)) (len := 1) (by decide +kernel) rfl
theorem x90_20 (h : z = 0 ∨ z = 1) : Ze d 90 20 [l0, l1] [aI z] s = rI z s := Ze_i2 (by decide +kernel) rfl h
theorem en90 : Zc (d + 1) 90 [aR r, aI a1] s = Ze d 90 0 [aR r, aI a1] [] s := rfl
theorem x92_0 : Ze d 92 0 [aR r] st s = Ze d 92 1 [aR r] (aR r :: st) s := Ze_n (i := (.aload_n 0)) (len := 1) (by decide +kernel) rfl
theorem x92_1 : Ze d 92 1 [l0] st s = Ze d 92 2 [l0] (aI 0 :: st) s := Ze_n (i := (.iconst 0)) (len := 1) (by decide +kernel) rfl
theorem x92_2 (h : obC r = 3) : Ze d 92 2 [l0] (aI z :: aR r :: st) s = Ze d 92 5 [l0] st (mu s r 15 z) := Ze_n (i := .putfield 63) (len := 3) (by decide +kernel) (if_pos h)
theorem x92_5 : Ze d 92 5 [aR r] st s = Ze d 92 6 [aR r] (aR r :: st) s := Ze_n (i := (.aload_n 0)) (len := 1) (by decide +kernel) rfl
theorem x92_6 (h : obC r = 3) : Ze d 92 6 [l0] (aR r :: st) s = Ze d 92 9 [l0] (aR (fcn r 11) :: st) s := Ze_gf (len := 3) (idx := 44) (by decide +kernel) rfl h rfl
theorem x92_9 : Ze d 92 9 [l0] st s = Ze d 92 10 [l0] (aI 0 :: st) s := Ze_n (i := (.iconst 0)) (len := 1) (by decide +kernel) rfl
theorem x92_10 (h6 : st.length ≤ 4) : Ze d 92 10 [l0] (aI a1 :: aR r0 :: st) s = zcV (Zc d 63 [aR r0, aI a1] s) d 92 13 [l0] st := Ze_csV (idx := 66) (len := 3) (as := [aR r0, aI a1]) (by decide +kernel) rfl rfl (by decide +kernel) rfl h6
theorem x92_13 : Ze d 92 13 [aR r] st s = Ze d 92 14 [aR r] (aR r :: st) s := Ze_n (i := (.aload_n 0)) (len := 1) (by decide +kernel) rfl
theorem x92_14 (h : obC r = 3) : Ze d 92 14 [l0] (aR r :: st) s = Ze d 92 17 [l0] (aR (fcn r 13) :: st) s := Ze_gf (len := 3) (idx := 50) (by decide +kernel) rfl h rfl
theorem x92_17 : Ze d 92 17 [l0] st s = Ze d 92 18 [l0] (aI 0 :: st) s := Ze_n (i := (.iconst 0)) (len := 1) (by decide +kernel) rfl
theorem x92_18 (h6 : st.length ≤ 4) : Ze d 92 18 [l0] (aI a1 :: aR r0 :: st) s = zcV (Zc d 63 [aR r0, aI a1] s) d 92 21 [l0] st := Ze_csV (idx := 66) (len := 3) (as := [aR r0, aI a1]) (by decide +kernel) rfl rfl (by decide +kernel) rfl h6
theorem x92_21 : Ze d 92 21 [aR r] st s = Ze d 92 22 [aR r] (aR r :: st) s := Ze_n (i := (.aload_n 0)) (len := 1) (by decide +kernel) rfl
theorem x92_22 (h : obC r = 3) : Ze d 92 22 [l0] (aR r :: st) s = Ze d 92 25 [l0] (aR (fcn r 12) :: st) s := Ze_gf (len := 3) (idx := 47) (by decide +kernel) rfl h rfl
theorem x92_25 : Ze d 92 25 [l0] st s = Ze d 92 26 [l0] (aI 0 :: st) s := Ze_n (i := (.iconst 0)) (len := 1) (by decide +kernel) rfl
theorem x92_26 (h6 : st.length ≤ 4) : Ze d 92 26 [l0] (aI a1 :: aR r0 :: st) s = zcV (Zc d 63 [aR r0, aI a1] s) d 92 29 [l0] st := Ze_csV (idx := 66) (len := 3) (as := [aR r0, aI a1]) (by decide +kernel) rfl rfl (by decide +kernel) rfl h6
theorem x92_29 : Ze d 92 29 [aR r] st s = Ze d 92 30 [aR r] (aR r :: st) s := Ze_n (i := (.aload_n 0)) (len := 1) (by decide +kernel) rfl
theorem x92_30 (h : obC r = 3) (h6 : st.length ≤ 4) : Ze d 92 30 [l0] (aR r :: st) s = zcV (Zc d 93 [aR r] s) d 92 33 [l0] st := Ze_cvV (idx := 72) (len := 3) (as := []) (by decide +kernel) rfl (by decide +kernel) rfl h h6
theorem x92_33 : Ze d 92 33 [aR r] st s = Ze d 92 34 [aR r] (aR r :: st) s := Ze_n (i := (.aload_n 0)) (len := 1) (by decide +kernel) rfl
theorem x92_34 (h : obC r = 3) (h6 : st.length ≤ 4) : Ze d 92 34 [l0] (aR r :: st) s = zcV (Zc d 94 [aR r] s) d 92 37 [l0] st := Ze_cvV (idx := 75) (len := 3) (as := []) (by decide +kernel) rfl (by decide +kernel) rfl h h6
theorem x92_37 : Ze d 92 37 [l0] [] s = rV s := Ze_v (by decide +kernel) rfl
theorem en92 : Zc (d + 1) 92 [aR r] s = Ze d 92 0 [aR r] [] s := rfl
theorem x93_0 : Ze d 93 0 [l0, l1, l2, l3] st s = Ze d 93 1 [l0, l1, l2, l3] (aI 0 :: st) s := Ze_n (i := (.iconst 0)) (len := 1) (by decide +kernel) rfl
theorem x93_1 : Ze d 93 1 [l0, l1, l2, l3] (aI z :: st) s = Ze d 93 2 [l0, aI z, l2, l3] st s := Ze_n (i := (.istore_n 1)) (len := 1) (by decide +kernel) rfl
theorem x93_2 : Ze d 93 2 [l0, l1, l2, l3] st s = Ze d 93 3 [l0, l1, l2, l3] (aI 0 :: st) s := Ze_n (i := (.iconst 0)) (len := 1) (by decide +kernel) rfl
theorem x93_3 : Ze d 93 3 [l0, l1, l2, l3] (aI z :: st) s = Ze d 93 4 [l0, l1, aI z, l3] st s := Ze_n (i := (.istore_n 2)) (len := 1) (by decide +kernel) rfl
theorem x93_4 : Ze d 93 4 [l0, l1, aI z, l3] st s = Ze d 93 5 [l0, l1, aI z, l3] (aI z :: st) s := Ze_n (i := (.iload_n 2)) (len := 1) (by decide +kernel) rfl
theorem x93_5 : Ze d 93 5 [aR r, l1, l2, l3] st s = Ze d 93 6 [aR r, l1, l2, l3] (aR r :: st) s := Ze_n (i := (.aload_n 0)) (len := 1) (by decide +kernel) rfl
theorem x93_6 (h : obC r = 3) : Ze d 93 6 [l0, l1, l2, l3] (aR r :: st) s = Ze d 93 9 [l0, l1, l2, l3] (aR (fcn r 0) :: st) s := Ze_gf (len := 3) (idx := 12) (by decide +kernel) rfl h rfl
theorem x93_9 (h : obC r = 8) : Ze d 93 9 [l0, l1, l2, l3] (aR r :: st) s = Ze d 93 12 [l0, l1, l2, l3] (aI (s r 6) :: st) s := Ze_gf (len := 3) (idx := 56) (by decide +kernel) rfl h rfl
theorem x93_12 : Ze d 93 12 [l0, l1, l2, l3] (aI b :: aI a :: st) s = if a < b then Ze d 93 15 [l0, l1, l2, l3] st s else Ze d 93 51 [l0, l1, l2, l3] st s := Ze_b (i := (.if_icmp .ge 39)) (len := 3) (by decide +kernel) rfl
theorem x93_15 : Ze d 93 15 [aR r, l1, l2, l3] st s = Ze d 93 16 [aR r, l1, l2, l3] (aR r :: st) s := Ze_n (i := (.aload_n 0)) (len := 1) (by decide +kernel) rfl
theorem x93_16 (h : obC r = 3) : Ze d 93 16 [l0, l1, l2, l3] (aR r :: st) s = Ze d 93 19 [l0, l1, l2, l3] (aR (fcn r 0) :: st) s := Ze_gf (len := 3) (idx := 12) (by decide +kernel) rfl h rfl
theorem x93_19 : Ze d 93 19 [l0, l1, aI z, l3] st s = Ze d 93 20 [l0, l1, aI z, l3] (aI z :: st) s := Ze_n (i := (.iload_n 2)) (len := 1) (by decide +kernel) rfl
theorem x93_20 (h : obC r = 8) (h6 : st.length ≤ 4) : Ze d 93 20 [l0, l1, l2, l3] (aI a1 :: aR r :: st) s = zcI (Zc d 145 [aR r, aI a1] s) d 93 23 [l0, l1, l2, l3] st := Ze_cvI (idx := 78) (len := 3) (as := [aI a1]) (by decide +kernel) rfl (by decide +kernel) rfl h h6
theorem x93_23 : Ze d 93 23 [l0, l1, l2, l3] (aI a :: st) s = if a = 0 then Ze d 93 26 [l0, l1, l2, l3] st s else Ze d 93 39 [l0, l1, l2, l3] st s := Ze_b (i := (.ifCond .ne 16)) (len := 3) (by decide +kernel) rfl
theorem x93_26 : Ze d 93 26 [aR r, l1, l2, l3] st s = Ze d 93 27 [aR r, l1, l2, l3] (aR r :: st) s := Ze_n (i := (.aload_n 0)) (len := 1) (by decide +kernel) rfl
theorem x93_27 (h : obC r = 3) : Ze d 93 27 [l0, l1, l2, l3] (aR r :: st) s = Ze d 93 30 [l0, l1, l2, l3] (aR (fcn r 0) :: st) s := Ze_gf (len := 3) (idx := 12) (by decide +kernel) rfl h rfl
theorem x93_30 (h : obC r = 8) : Ze d 93 30 [l0, l1, l2, l3] (aR r :: st) s = Ze d 93 33 [l0, l1, l2, l3] (aR (fcn r 0) :: st) s := Ze_gf (len := 3) (idx := 82) (by decide +kernel) rfl h rfl
theorem x93_33 : Ze d 93 33 [l0, l1, aI z, l3] st s = Ze d 93 34 [l0, l1, aI z, l3] (aI z :: st) s := Ze_n (i := (.iload_n 2)) (len := 1) (by decide +kernel) rfl
theorem x93_34 (h0 : 0 ≤ i) (h1 : i < aN1 r) : Ze d 93 34 [l0, l1, l2, l3] (aI i :: aR r :: st) s = Ze d 93 35 [l0, l1, l2, l3] (aI (s r i.toNat) :: st) s := Ze_n (i := .iaload) (len := 1) (by decide +kernel) (if_pos ⟨h0, h1⟩)
theorem x93_35 : Ze d 93 35 [l0, l1, l2, l3] st s = Ze d 93 36 [l0, l1, l2, l3] (aI 3 :: st) s := Ze_n (i := (.iconst 3)) (len := 1) (by decide +kernel) rfl
theorem x93_36 : Ze d 93 36 [l0, l1, l2, l3] (aI b :: aI a :: st) s = if a = b then Ze d 93 39 [l0, l1, l2, l3] st s else Ze d 93 45 [l0, l1, l2, l3] st s := Ze_b (i := (.if_icmp .ne 9)) (len := 3) (by decide +kernel) rfl
theorem x93_39 : Ze d 93 39 [l0, aI z, l2, l3] st s = Ze d 93 40 [l0, aI z, l2, l3] (aI z :: st) s := Ze_n (i := (.iload_n 1)) (len := 1) (by decide +kernel) rfl
theorem x93_40 : Ze d 93 40 [l0, l1, l2, l3] st s = Ze d 93 41 [l0, l1, l2, l3] (aI 1 :: st) s := Ze_n (i := (.iconst 1)) (len := 1) (by decide +kernel) rfl
theorem x93_41 : Ze d 93 41 [l0, l1, aI z, l3] st s = Ze d 93 42 [l0, l1, aI z, l3] (aI z :: st) s := Ze_n (i := (.iload_n 2)) (len := 1) (by decide +kernel) rfl
theorem x93_42 : Ze d 93 42 [l0, l1, l2, l3] (aI b :: aI a :: st) s = Ze d 93 43 [l0, l1, l2, l3] (aI (ishl a b) :: st) s := Ze_n (i := .ishl) (len := 1) (by decide +kernel) rfl
theorem x93_43 : Ze d 93 43 [l0, l1, l2, l3] (aI b :: aI a :: st) s = Ze d 93 44 [l0, l1, l2, l3] (aI (ior a b) :: st) s := Ze_n (i := .ior) (len := 1) (by decide +kernel) rfl
theorem x93_44 : Ze d 93 44 [l0, l1, l2, l3] (aI z :: st) s = Ze d 93 45 [l0, aI z, l2, l3] st s := Ze_n (i := (.istore_n 1)) (len := 1) (by decide +kernel) rfl
theorem x93_45 : Ze d 93 45 [l0, l1, aI z, l3] st s = Ze d 93 48 [l0, l1, aI (wrap (z + 1)), l3] st s := Ze_n (i := (.iinc 2 1)) (len := 3) (by decide +kernel) rfl
theorem x93_48 : Ze d 93 48 [l0, l1, l2, l3] st s = Ze d 93 4 [l0, l1, l2, l3] st s := Ze_n (i := (.goto (-44))) (len := 3) (by decide +kernel) rfl
theorem x93_51 : Ze d 93 51 [aR r, l1, l2, l3] st s = Ze d 93 52 [aR r, l1, l2, l3] (aR r :: st) s := Ze_n (i := (.aload_n 0)) (len := 1) (by decide +kernel) rfl
theorem x93_52 : Ze d 93 52 [l0, l1, l2, l3] st s = Ze d 93 53 [l0, l1, l2, l3] (aI 0 :: st) s := Ze_n (i := (.iconst 0)) (len := 1) (by decide +kernel) rfl
theorem x93_53 (h : obC r = 3) : Ze d 93 53 [l0, l1, l2, l3] (aI z :: aR r :: st) s = Ze d 93 56 [l0, l1, l2, l3] st (mu s r 10 z) := Ze_n (i := .putfield 85) (len := 3) (by decide +kernel) (if_pos h)
theorem x93_56 : Ze d 93 56 [l0, l1, l2, l3] st s = Ze d 93 57 [l0, l1, l2, l3] (aI 0 :: st) s := Ze_n (i := (.iconst 0)) (len := 1) (by decide +kernel) rfl
theorem x93_57 : Ze d 93 57 [l0, l1, l2, l3] (aI z :: st) s = Ze d 93 58 [l0, l1, aI z, l3] st s := Ze_n (i := (.istore_n 2)) (len := 1) (by decide +kernel) rfl
theorem x93_58 : Ze d 93 58 [l0, l1, aI z, l3] st s = Ze d 93 59 [l0, l1, aI z, l3] (aI z :: st) s := Ze_n (i := (.iload_n 2)) (len := 1) (by decide +kernel) rfl
theorem x93_59 : Ze d 93 59 [aR r, l1, l2, l3] st s = Ze d 93 60 [aR r, l1, l2, l3] (aR r :: st) s := Ze_n (i := (.aload_n 0)) (len := 1) (by decide +kernel) rfl
theorem x93_60 (h : obC r = 3) : Ze d 93 60 [l0, l1, l2, l3] (aR r :: st) s = Ze d 93 63 [l0, l1, l2, l3] (aR (fcn r 0) :: st) s := Ze_gf (len := 3) (idx := 12) (by decide +kernel) rfl h rfl
theorem x93_63 (h : obC r = 8) : Ze d 93 63 [l0, l1, l2, l3] (aR r :: st) s = Ze d 93 66 [l0, l1, l2, l3] (aI (s r 6) :: st) s := Ze_gf (len := 3) (idx := 56) (by decide +kernel) rfl h rfl
theorem x93_66 : Ze d 93 66 [l0, l1, l2, l3] (aI b :: aI a :: st) s = if a < b then Ze d 93 69 [l0, l1, l2, l3] st s else Ze d 93 141 [l0, l1, l2, l3] st s := Ze_b (i := (.if_icmp .ge 75)) (len := 3) (by decide +kernel) rfl
theorem x93_69 : Ze d 93 69 [l0, l1, l2, l3] st s = Ze d 93 70 [l0, l1, l2, l3] (aI 0 :: st) s := Ze_n (i := (.iconst 0)) (len := 1) (by decide +kernel) rfl
theorem x93_70 : Ze d 93 70 [l0, l1, l2, l3] (aI z :: st) s = Ze d 93 71 [l0, l1, l2, aI z] st s := Ze_n (i := (.istore_n 3)) (len := 1) (by decide +kernel) rfl
theorem x93_71 : Ze d 93 71 [l0, l1, l2, aI z] st s = Ze d 93 72 [l0, l1, l2, aI z] (aI z :: st) s := Ze_n (i := (.iload_n 3)) (len := 1) (by decide +kernel) rfl
theorem x93_72 : Ze d 93 72 [aR r, l1, l2, l3] st s = Ze d 93 73 [aR r, l1, l2, l3] (aR r :: st) s := Ze_n (i := (.aload_n 0)) (len := 1) (by decide +kernel) rfl
theorem x93_73 (h : obC r = 3) : Ze d 93 73 [l0, l1, l2, l3] (aR r :: st) s = Ze d 93 76 [l0, l1, l2, l3] (aR (fcn r 0) :: st) s := Ze_gf (len := 3) (idx := 12) (by decide +kernel) rfl h rfl
theorem x93_76 (h : obC r = 8) : Ze d 93 76 [l0, l1, l2, l3] (aR r :: st) s = Ze d 93 79 [l0, l1, l2, l3] (aI (s r 6) :: st) s := Ze_gf (len := 3) (idx := 56) (by decide +kernel) rfl h rfl
theorem x93_79 : Ze d 93 79 [l0, l1, l2, l3] (aI b :: aI a :: st) s = if a < b then Ze d 93 82 [l0, l1, l2, l3] st s else Ze d 93 135 [l0, l1, l2, l3] st s := Ze_b (i := (.if_icmp .ge 56)) (len := 3) (by decide +kernel) rfl
theorem x93_82 : Ze d 93 82 [l0, aI z, l2, l3] st s = Ze d 93 83 [l0, aI z, l2, l3] (aI z :: st) s := Ze_n (i := (.iload_n 1)) (len := 1) (by decide +kernel) rfl
theorem x93_83 : Ze d 93 83 [l0, l1, l2, aI z] st s = Ze d 93 84 [l0, l1, l2, aI z] (aI z :: st) s := Ze_n (i := (.iload_n 3)) (len := 1) (by decide +kernel) rfl
theorem x93_84 : Ze d 93 84 [l0, l1, l2, l3] (aI b :: aI a :: st) s = Ze d 93 85 [l0, l1, l2, l3] (aI (ishr a b) :: st) s := Ze_n (i := .ishr) (len := 1) (by decide +kernel) rfl
theorem x93_85 : Ze d 93 85 [l0, l1, l2, l3] st s = Ze d 93 86 [l0, l1, l2, l3] (aI 1 :: st) s := Ze_n (i := (.iconst 1)) (len := 1) (by decide +kernel) rfl
theorem x93_86 : Ze d 93 86 [l0, l1, l2, l3] (aI b :: aI a :: st) s = Ze d 93 87 [l0, l1, l2, l3] (aI (iand a b) :: st) s := Ze_n (i := .iand) (len := 1) (by decide +kernel) rfl
theorem x93_87 : Ze d 93 87 [l0, l1, l2, l3] (aI a :: st) s = if a = 0 then Ze d 93 90 [l0, l1, l2, l3] st s else Ze d 93 129 [l0, l1, l2, l3] st s := Ze_b (i := (.ifCond .ne 42)) (len := 3) (by decide +kernel) rfl
theorem x93_90 : Ze d 93 90 [aR r, l1, l2, l3] st s = Ze d 93 91 [aR r, l1, l2, l3] (aR r :: st) s := Ze_n (i := (.aload_n 0)) (len := 1) (by decide +kernel) rfl
theorem x93_91 (h : obC r = 3) : Ze d 93 91 [l0, l1, l2, l3] (aR r :: st) s = Ze d 93 94 [l0, l1, l2, l3] (aR (fcn r 8) :: st) s := Ze_gf (len := 3) (idx := 38) (by decide +kernel) rfl h rfl
theorem x93_94 : Ze d 93 94 [l0, l1, l2, aI z] st s = Ze d 93 95 [l0, l1, l2, aI z] (aI z :: st) s := Ze_n (i := (.iload_n 3)) (len := 1) (by decide +kernel) rfl
theorem x93_95 (h0 : 0 ≤ i) (h1 : i < aN1 r) : Ze d 93 95 [l0, l1, l2, l3] (aI i :: aR r :: st) s = Ze d 93 96 [l0, l1, l2, l3] (aI (s r i.toNat) :: st) s := Ze_n (i := .iaload) (len := 1) (by decide +kernel) (if_pos ⟨h0, h1⟩)
theorem x93_96 : Ze d 93 96 [l0, aI z, l2, l3] st s = Ze d 93 97 [l0, aI z, l2, l3] (aI z :: st) s := Ze_n (i := (.iload_n 1)) (len := 1) (by decide +kernel) rfl
theorem x93_97 : Ze d 93 97 [l0, l1, l2, l3] st s = Ze d 93 98 [l0, l1, l2, l3] (aI (-1) :: st) s := Ze_n (i := (.iconst (-1))) (len := 1) (by decide +kernel) rfl
theorem x93_98 : Ze d 93 98 [l0, l1, l2, l3] (aI b :: aI a :: st) s = Ze d 93 99 [l0, l1, l2, l3] (aI (ixor a b) :: st) s := Ze_n (i := .ixor) (len := 1) (by decide +kernel) rfl
theorem x93_99 : Ze d 93 99 [l0, l1, l2, l3] (aI b :: aI a :: st) s = Ze d 93 100 [l0, l1, l2, l3] (aI (iand a b) :: st) s := Ze_n (i := .iand) (len := 1) (by decide +kernel) rfl
theorem x93_100 : Ze d 93 100 [l0, l1, l2, l3] (aI a :: st) s = if a = 0 then Ze d 93 103 [l0, l1, l2, l3] st s else Ze d 93 129 [l0, l1, l2, l3] st s := Ze_b (i := (.ifCond .ne 29)) (len := 3) (by decide +kernel) rfl
theorem x93_103 : Ze d 93 103 [aR r, l1, l2, l3] st s = Ze d 93 104 [aR r, l1, l2, l3] (aR r :: st) s := Ze_n (i := (.aload_n 0)) (len := 1) (by decide +kernel) rfl
theorem x93_104 (h : obC r = 3) : Ze d 93 104 [l0, l1, l2, l3] (aR r :: st) s = Ze d 93 107 [l0, l1, l2, l3] (aR (fcn r 9) :: st) s := Ze_gf (len := 3) (idx := 41) (by decide +kernel) rfl h rfl
theorem x93_107 : Ze d 93 107 [aR r, l1, l2, l3] st s = Ze d 93 108 [aR r, l1, l2, l3] (aR r :: st) s := Ze_n (i := (.aload_n 0)) (len := 1) (by decide +kernel) rfl
theorem x93_108 (h : obC r = 3) : Ze d 93 108 [l0, l1, l2, l3] (aR r :: st) s = Ze d 93 111 [l0, l1, l2, l3] (aI (s r 10) :: st) s := Ze_gf (len := 3) (idx := 85) (by decide +kernel) rfl h rfl
theorem x93_111 : Ze d 93 111 [l0, l1, l2, aI z] st s = Ze d 93 112 [l0, l1, l2, aI z] (aI z :: st) s := Ze_n (i := (.iload_n 3)) (len := 1) (by decide +kernel) rfl
theorem x93_112 (h0 : 0 ≤ i) (h1 : i < aN1 r) : Ze d 93 112 [l0, l1, l2, l3] (aI z :: aI i :: aR r :: st) s = Ze d 93 113 [l0, l1, l2, l3] st (mu s r i.toNat z) := Ze_n (i := .iastore) (len := 1) (by decide +kernel) (if_pos ⟨h0, h1⟩)
theorem x93_113 : Ze d 93 113 [aR r, l1, l2, l3] st s = Ze d 93 114 [aR r, l1, l2, l3] (aR r :: st) s := Ze_n (i := (.aload_n 0)) (len := 1) (by decide +kernel) rfl
theorem x93_114 : Ze d 93 114 [l0, l1, l2, l3] (aR r :: st) s = Ze d 93 115 [l0, l1, l2, l3] (aR r :: aR r :: st) s := Ze_n (i := .dup) (len := 1) (by decide +kernel) rfl
theorem x93_114i : Ze d 93 114 [l0, l1, l2, l3] (aI a :: st) s = Ze d 93 115 [l0, l1, l2, l3] (aI a :: aI a :: st) s := Ze_n (i := .dup) (len := 1) (by decide +kernel) rfl
theorem x93_115 (h : obC r = 3) : Ze d 93 115 [l0, l1, l2, l3] (aR r :: st) s = Ze d 93 118 [l0, l1, l2, l3] (aI (s r 10) :: st) s := Ze_gf (len := 3) (idx := 85) (by decide +kernel) rfl h rfl
theorem x93_118 : Ze d 93 118 [l0, l1, l2, l3] st s = Ze d 93 119 [l0, l1, l2, l3] (aI 1 :: st) s := Ze_n (i := (.iconst 1)) (len := 1) (by decide +kernel) rfl
theorem x93_119 : Ze d 93 119 [l0, l1, l2, l3] (aI b :: aI a :: st) s = Ze d 93 120 [l0, l1, l2, l3] (aI (wrap (a + b)) :: st) s := Ze_n (i := .iadd) (len := 1) (by decide +kernel) rfl
theorem x93_120 (h : obC r = 3) : Ze d 93 120 [l0, l1, l2, l3] (aI z :: aR r :: st) s = Ze d 93 123 [l0, l1, l2, l3] st (mu s r 10 z) := Ze_n (i := .putfield 85) (len := 3) (by decide +kernel) (if_pos h)
theorem x93_123 : Ze d 93 123 [l0, aI z, l2, l3] st s = Ze d 93 124 [l0, aI z, l2, l3] (aI z :: st) s := Ze_n (i := (.iload_n 1)) (len := 1) (by decide +kernel) rfl
theorem x93_124 : Ze d 93 124 [l0, l1, l2, l3] st s = Ze d 93 125 [l0, l1, l2, l3] (aI 1 :: st) s := Ze_n (i := (.iconst 1)) (len := 1) (by decide +kernel) rfl
theorem x93_125 : Ze d 93 125 [l0, l1, l2, aI z] st s = Ze d 93 126 [l0, l1, l2, aI z] (aI z :: st) s := Ze_n (i := (.iload_n 3)) (len := 1) (by decide +kernel) rfl
theorem x93_126 : Ze d 93 126 [l0, l1, l2, l3] (aI b :: aI a :: st) s = Ze d 93 127 [l0, l1, l2, l3] (aI (ishl a b) :: st) s := Ze_n (i := .ishl) (len := 1) (by decide +kernel) rfl
theorem x93_127 : Ze d 93 127 [l0, l1, l2, l3] (aI b :: aI a :: st) s = Ze d 93 128 [l0, l1, l2, l3] (aI (ior a b) :: st) s := Ze_n (i := .ior) (len := 1) (by decide +kernel) rfl
theorem x93_128 : Ze d 93 128 [l0, l1, l2, l3] (aI z :: st) s = Ze d 93 129 [l0, aI z, l2, l3] st s := Ze_n (i := (.istore_n 1)) (len := 1) (by decide +kernel) rfl
theorem x93_129 : Ze d 93 129 [l0, l1, l2, aI z] st s = Ze d 93 132 [l0, l1, l2, aI (wrap (z + 1))] st s := Ze_n (i := (.iinc 3 1)) (len := 3) (by decide +kernel) rfl
theorem x93_132 : Ze d 93 132 [l0, l1, l2, l3] st s = Ze d 93 71 [l0, l1, l2, l3] st s := Ze_n (i := (.goto (-61))) (len := 3) (by decide +kernel) rfl
theorem x93_135 : Ze d 93 135 [l0, l1, aI z, l3] st s = Ze d 93 138 [l0, l1, aI (wrap (z + 1)), l3] st s := Ze_n (i := (.iinc 2 1)) (len := 3) (by decide +kernel) rfl
theorem x93_138 : Ze d 93 138 [l0, l1, l2, l3] st s = Ze d 93 58 [l0, l1, l2, l3] st s := Ze_n (i := (.goto (-80))) (len := 3) (by decide +kernel) rfl
theorem x93_141 : Ze d 93 141 [l0, l1, l2, l3] [] s = rV s := Ze_v (by decide +kernel) rfl
theorem en93 : Zc (d + 1) 93 [aR r] s = Ze d 93 0 [aR r, aU, aU, aU] [] s := rfl
theorem x94_0 : Ze d 94 0 [l0, l1] st s = Ze d 94 1 [l0, l1] (aI 0 :: st) s := Ze_n (i := (.iconst 0)) (len := 1) (by decide +kernel) rfl
theorem x94_1 : Ze d 94 1 [l0, l1] (aI z :: st) s = Ze d 94 2 [l0, aI z] st s := Ze_n (i := (.istore_n 1)) (len := 1) (by decide +kernel) rfl
theorem x94_2 : Ze d 94 2 [l0, aI z] st s = Ze d 94 3 [l0, aI z] (aI z :: st) s := Ze_n (i := (.iload_n 1)) (len := 1) (by decide +kernel) rfl
theorem x94_3 : Ze d 94 3 [aR r, l1] st s = Ze d 94 4 [aR r, l1] (aR r :: st) s := Ze_n (i := (.aload_n 0)) (len := 1) (by decide +kernel) rfl
theorem x94_4 (h : obC r = 3) : Ze d 94 4 [l0, l1] (aR r :: st) s = Ze d 94 7 [l0, l1] (aI (s r 10) :: st) s := Ze_gf (len := 3) (idx := 85) (by decide +kernel) rfl h rfl
theorem x94_7 : Ze d 94 7 [l0, l1] (aI b :: aI a :: st) s = if a < b then Ze d 94 10 [l0, l1] st s else Ze d 94 37 [l0, l1] st s := Ze_b (i := (.if_icmp .ge 30)) (len := 3) (by decide +kernel) rfl
theorem x94_10 : Ze d 94 10 [aR r, l1] st s = Ze d 94 11 [aR r, l1] (aR r :: st) s := Ze_n (i := (.aload_n 0)) (len := 1) (by decide +kernel) rfl
theorem x94_11 (h : obC r = 3) : Ze d 94 11 [l0, l1] (aR r :: st) s = Ze d 94 14 [l0, l1] (aR (fcn r 11) :: st) s := Ze_gf (len := 3) (idx := 44) (by decide +kernel) rfl h rfl
theorem x94_14 : Ze d 94 14 [aR r, l1] st s = Ze d 94 15 [aR r, l1] (aR r :: st) s := Ze_n (i := (.aload_n 0)) (len := 1) (by decide +kernel) rfl
theorem x94_15 (h : obC r = 3) : Ze d 94 15 [l0, l1] (aR r :: st) s = Ze d 94 18 [l0, l1] (aR (fcn r 9) :: st) s := Ze_gf (len := 3) (idx := 41) (by decide +kernel) rfl h rfl
theorem x94_18 : Ze d 94 18 [l0, aI z] st s = Ze d 94 19 [l0, aI z] (aI z :: st) s := Ze_n (i := (.iload_n 1)) (len := 1) (by decide +kernel) rfl
theorem x94_19 (h0 : 0 ≤ i) (h1 : i < aN1 r) : Ze d 94 19 [l0, l1] (aI i :: aR r :: st) s = Ze d 94 20 [l0, l1] (aI (s r i.toNat) :: st) s := Ze_n (i := .iaload) (len := 1) (by decide +kernel) (if_pos ⟨h0, h1⟩)
theorem x94_20 : Ze d 94 20 [aR r, l1] st s = Ze d 94 21 [aR r, l1] (aR r :: st) s := Ze_n (i := (.aload_n 0)) (len := 1) (by decide +kernel) rfl
theorem x94_21 : Ze d 94 21 [aR r, l1] st s = Ze d 94 22 [aR r, l1] (aR r :: st) s := Ze_n (i := (.aload_n 0)) (len := 1) (by decide +kernel) rfl
theorem x94_22 (h : obC r = 3) : Ze d 94 22 [l0, l1] (aR r :: st) s = Ze d 94 25 [l0, l1] (aR (fcn r 9) :: st) s := Ze_gf (len := 3) (idx := 41) (by decide +kernel) rfl h rfl
theorem x94_25 : Ze d 94 25 [l0, aI z] st s = Ze d 94 26 [l0, aI z] (aI z :: st) s := Ze_n (i := (.iload_n 1)) (len := 1) (by decide +kernel) rfl
theorem x94_26 (h0 : 0 ≤ i) (h1 : i < aN1 r) : Ze d 94 26 [l0, l1] (aI i :: aR r :: st) s = Ze d 94 27 [l0, l1] (aI (s r i.toNat) :: st) s := Ze_n (i := .iaload) (len := 1) (by decide +kernel) (if_pos ⟨h0, h1⟩)
theorem x94_27 (h : obC r = 3) (h6 : st.length ≤ 4) : Ze d 94 27 [l0, l1] (aI a1 :: aR r :: st) s = zcI (Zc d 95 [aR r, aI a1] s) d 94 30 [l0, l1] st := Ze_cvI (idx := 88) (len := 3) (as := [aI a1]) (by decide +kernel) rfl (by decide +kernel) rfl h h6
theorem x94_30 (h0 : 0 ≤ i) (h1 : i < aN1 r) : Ze d 94 30 [l0, l1] (aI z :: aI i :: aR r :: st) s = Ze d 94 31 [l0, l1] st (mu s r i.toNat z) := Ze_n (i := .iastore) (len := 1) (by decide +kernel) (if_pos ⟨h0, h1⟩)
theorem x94_31 : Ze d 94 31 [l0, aI z] st s = Ze d 94 34 [l0, aI (wrap (z + 1))] st s := Ze_n (i := (.iinc 1 1)) (len := 3) (by decide +kernel) rfl
theorem x94_34 : Ze d 94 34 [l0, l1] st s = Ze d 94 2 [l0, l1] st s := Ze_n (i := (.goto (-32))) (len := 3) (by decide +kernel) rfl
theorem x94_37 : Ze d 94 37 [l0, l1] [] s = rV s := Ze_v (by decide +kernel) rfl
theorem en94 : Zc (d + 1) 94 [aR r] s = Ze d 94 0 [aR r, aU] [] s := rfl
theorem x95_0 : Ze d 95 0 [aR r, l1, l2, l3, l4, l5] st s = Ze d 95 1 [aR r, l1, l2, l3, l4, l5] (aR r :: st) s := Ze_n (i := (.aload_n 0)) (len := 1) (by decide +kernel) rfl
theorem x95_1 (h : obC r = 3) : Ze d 95 1 [l0, l1, l2, l3, l4, l5] (aR r :: st) s = Ze d 95 4 [l0, l1, l2, l3, l4, l5] (aR (fcn r 7) :: st) s := Ze_gf (len := 3) (idx := 35) (by decide +kernel) rfl h rfl
theorem x95_4 : Ze d 95 4 [l0, aI z, l2, l3, l4, l5] st s = Ze d 95 5 [l0, aI z, l2, l3, l4, l5] (aI z :: st) s := Ze_n (i := (.iload_n 1)) (len := 1) (by decide +kernel) rfl
theorem x95_5 (h0 : 0 ≤ i) (h1 : i < aN1 r) : Ze d 95 5 [l0, l1, l2, l3, l4, l5] (aI i :: aR r :: st) s = Ze d 95 6 [l0, l1, l2, l3, l4, l5] (aI (s r i.toNat) :: st) s := Ze_n (i := .iaload) (len := 1) (by decide +kernel) (if_pos ⟨h0, h1⟩)
theorem x95_6 : Ze d 95 6 [l0, l1, l2, l3, l4, l5] (aI z :: st) s = Ze d 95 7 [l0, l1, aI z, l3, l4, l5] st s := Ze_n (i := (.istore_n 2)) (len := 1) (by decide +kernel) rfl
theorem x95_7 : Ze d 95 7 [l0, l1, l2, l3, l4, l5] st s = Ze d 95 8 [l0, l1, l2, l3, l4, l5] (aI 0 :: st) s := Ze_n (i := (.iconst 0)) (len := 1) (by decide +kernel) rfl
theorem x95_8 : Ze d 95 8 [l0, l1, l2, l3, l4, l5] (aI z :: st) s = Ze d 95 9 [l0, l1, l2, aI z, l4, l5] st s := Ze_n (i := (.istore_n 3)) (len := 1) (by decide +kernel) rfl
theorem x95_9 : Ze d 95 9 [l0, l1, l2, aI z, l4, l5] st s = Ze d 95 10 [l0, l1, l2, aI z, l4, l5] (aI z :: st) s := Ze_n (i := (.iload_n 3)) (len := 1) (by decide +kernel) rfl
theorem x95_10 : Ze d 95 10 [aR r, l1, l2, l3, l4, l5] st s = Ze d 95 11 [aR r, l1, l2, l3, l4, l5] (aR r :: st) s := Ze_n (i := (.aload_n 0)) (len := 1) (by decide +kernel) rfl
theorem x95_11 (h : obC r = 3) : Ze d 95 11 [l0, l1, l2, l3, l4, l5] (aR r :: st) s = Ze d 95 14 [l0, l1, l2, l3, l4, l5] (aI (s r 6) :: st) s := Ze_gf (len := 3) (idx := 60) (by decide +kernel) rfl h rfl
theorem x95_14 : Ze d 95 14 [l0, l1, l2, l3, l4, l5] (aI b :: aI a :: st) s = if a < b then Ze d 95 17 [l0, l1, l2, l3, l4, l5] st s else Ze d 95 88 [l0, l1, l2, l3, l4, l5] st s := Ze_b (i := (.if_icmp .ge 74)) (len := 3) (by decide +kernel) rfl
theorem x95_17 : Ze d 95 17 [l0, l1, aI z, l3, l4, l5] st s = Ze d 95 18 [l0, l1, aI z, l3, l4, l5] (aI z :: st) s := Ze_n (i := (.iload_n 2)) (len := 1) (by decide +kernel) rfl
theorem x95_18 : Ze d 95 18 [l0, l1, l2, l3, l4, l5] st s = Ze d 95 21 [l0, l1, l2, l3, l4, l5] (aI 225 :: st) s := Ze_n (i := (.sipush 225)) (len := 3) (by decide +kernel) rfl
theorem x95_21 : Ze d 95 21 [l0, l1, l2, l3, l4, l5] (aI b :: aI a :: st) s = if a < b then Ze d 95 88 [l0, l1, l2, l3, l4, l5] st s else Ze d 95 24 [l0, l1, l2, l3, l4, l5] st s := Ze_b (i := (.if_icmp .lt 67)) (len := 3) (by decide +kernel) rfl
theorem x95_24 : Ze d 95 24 [l0, l1, aI z, l3, l4, l5] st s = Ze d 95 25 [l0, l1, aI z, l3, l4, l5] (aI z :: st) s := Ze_n (i := (.iload_n 2)) (len := 1) (by decide +kernel) rfl
theorem x95_25 : Ze d 95 25 [l0, l1, l2, l3, l4, l5] st s = Ze d 95 28 [l0, l1, l2, l3, l4, l5] (aI 225 :: st) s := Ze_n (i := (.sipush 225)) (len := 3) (by decide +kernel) rfl
theorem x95_28 : Ze d 95 28 [l0, l1, l2, l3, l4, l5] (aI b :: aI a :: st) s = Ze d 95 29 [l0, l1, l2, l3, l4, l5] (aI (wrap (a - b)) :: st) s := Ze_n (i := .isub) (len := 1) (by decide +kernel) rfl
theorem x95_29 : Ze d 95 29 [l0, l1, l2, l3, l4, l5] (aI z :: st) s = Ze d 95 31 [l0, l1, l2, l3, aI z, l5] st s := Ze_n (i := (.istore 4)) (len := 2) (by decide +kernel) rfl
theorem x95_31 : Ze d 95 31 [aR r, l1, l2, l3, l4, l5] st s = Ze d 95 32 [aR r, l1, l2, l3, l4, l5] (aR r :: st) s := Ze_n (i := (.aload_n 0)) (len := 1) (by decide +kernel) rfl
theorem x95_32 (h : obC r = 3) : Ze d 95 32 [l0, l1, l2, l3, l4, l5] (aR r :: st) s = Ze d 95 35 [l0, l1, l2, l3, l4, l5] (aR (fcn r 1) :: st) s := Ze_gf (len := 3) (idx := 21) (by decide +kernel) rfl h rfl
theorem x95_35 : Ze d 95 35 [aR r, l1, l2, l3, l4, l5] st s = Ze d 95 36 [aR r, l1, l2, l3, l4, l5] (aR r :: st) s := Ze_n (i := (.aload_n 0)) (len := 1) (by decide +kernel) rfl
theorem x95_36 (h : obC r = 3) : Ze d 95 36 [l0, l1, l2, l3, l4, l5] (aR r :: st) s = Ze d 95 39 [l0, l1, l2, l3, l4, l5] (aR (fcn r 3) :: st) s := Ze_gf (len := 3) (idx := 25) (by decide +kernel) rfl h rfl
theorem x95_39 : Ze d 95 39 [l0, l1, l2, l3, aI z, l5] st s = Ze d 95 41 [l0, l1, l2, l3, aI z, l5] (aI z :: st) s := Ze_n (i := (.iload 4)) (len := 2) (by decide +kernel) rfl
theorem x95_41 (h0 : 0 ≤ i) (h1 : i < aN1 r) : Ze d 95 41 [l0, l1, l2, l3, l4, l5] (aI i :: aR r :: st) s = Ze d 95 42 [l0, l1, l2, l3, l4, l5] (aI (s r i.toNat) :: st) s := Ze_n (i := .iaload) (len := 1) (by decide +kernel) (if_pos ⟨h0, h1⟩)
theorem x95_42 : Ze d 95 42 [aR r, l1, l2, l3, l4, l5] st s = Ze d 95 43 [aR r, l1, l2, l3, l4, l5] (aR r :: st) s := Ze_n (i := (.aload_n 0)) (len := 1) (by decide +kernel) rfl
theorem x95_43 (h : obC r = 3) : Ze d 95 43 [l0, l1, l2, l3, l4, l5] (aR r :: st) s = Ze d 95 46 [l0, l1, l2, l3, l4, l5] (aR (fcn r 11) :: st) s := Ze_gf (len := 3) (idx := 44) (by decide +kernel) rfl h rfl
theorem x95_46 (h : obC r = 6) (h6 : st.length ≤ 4) : Ze d 95 46 [l0, l1, l2, l3, l4, l5] (aR r2 :: aI a1 :: aR r :: st) s = zcI (Zc d 120 [aR r, aI a1, aR r2] s) d 95 49 [l0, l1, l2, l3, l4, l5] st := Ze_cvI (idx := 92) (len := 3) (as := [aI a1, aR r2]) (by decide +kernel) rfl (by decide +kernel) rfl h h6
theorem x95_49 : Ze d 95 49 [l0, l1, l2, l3, l4, l5] (aI a :: st) s = if a = 0 then Ze d 95 56 [l0, l1, l2, l3, l4, l5] st s else Ze d 95 52 [l0, l1, l2, l3, l4, l5] st s := Ze_b (i := (.ifCond .eq 7)) (len := 3) (by decide +kernel) rfl
theorem x95_52 : Ze d 95 52 [l0, l1, l2, l3, l4, l5] st s = Ze d 95 53 [l0, l1, l2, l3, l4, l5] (aI 1 :: st) s := Ze_n (i := (.iconst 1)) (len := 1) (by decide +kernel) rfl
theorem x95_53 : Ze d 95 53 [l0, l1, l2, l3, l4, l5] st s = Ze d 95 57 [l0, l1, l2, l3, l4, l5] st s := Ze_n (i := (.goto 4)) (len := 3) (by decide +kernel) rfl
theorem x95_56 : Ze d 95 56 [l0, l1, l2, l3, l4, l5] st s = Ze d 95 57 [l0, l1, l2, l3, l4, l5] (aI 0 :: st) s := Ze_n (i := (.iconst 0)) (len := 1) (by decide +kernel) rfl
theorem x95_57 : Ze d 95 57 [l0, l1, l2, l3, l4, l5] (aI z :: st) s = Ze d 95 59 [l0, l1, l2, l3, l4, aI z] st s := Ze_n (i := (.istore 5)) (len := 2) (by decide +kernel) rfl
theorem x95_59 : Ze d 95 59 [l0, l1, l2, l3, l4, aI z] st s = Ze d 95 61 [l0, l1, l2, l3, l4, aI z] (aI z :: st) s := Ze_n (i := (.iload 5)) (len := 2) (by decide +kernel) rfl
theorem x95_61 : Ze d 95 61 [l0, l1, l2, l3, l4, l5] (aI a :: st) s = if a = 0 then Ze d 95 74 [l0, l1, l2, l3, l4, l5] st s else Ze d 95 64 [l0, l1, l2, l3, l4, l5] st s := Ze_b (i := (.ifCond .eq 13)) (len := 3) (by decide +kernel) rfl
theorem x95_64 : Ze d 95 64 [aR r, l1, l2, l3, l4, l5] st s = Ze d 95 65 [aR r, l1, l2, l3, l4, l5] (aR r :: st) s := Ze_n (i := (.aload_n 0)) (len := 1) (by decide +kernel) rfl
theorem x95_65 (h : obC r = 3) : Ze d 95 65 [l0, l1, l2, l3, l4, l5] (aR r :: st) s = Ze d 95 68 [l0, l1, l2, l3, l4, l5] (aR (fcn r 4) :: st) s := Ze_gf (len := 3) (idx := 29) (by decide +kernel) rfl h rfl
theorem x95_68 : Ze d 95 68 [l0, l1, l2, l3, aI z, l5] st s = Ze d 95 70 [l0, l1, l2, l3, aI z, l5] (aI z :: st) s := Ze_n (i := (.iload 4)) (len := 2) (by decide +kernel) rfl
theorem x95_70 (h0 : 0 ≤ i) (h1 : i < aN1 r) : Ze d 95 70 [l0, l1, l2, l3, l4, l5] (aI i :: aR r :: st) s = Ze d 95 71 [l0, l1, l2, l3, l4, l5] (aI (s r i.toNat) :: st) s := Ze_n (i := .iaload) (len := 1) (by decide +kernel) (if_pos ⟨h0, h1⟩)
theorem x95_71 : Ze d 95 71 [l0, l1, l2, l3, l4, l5] st s = Ze d 95 81 [l0, l1, l2, l3, l4, l5] st s := Ze_n (i := (.goto 10)) (len := 3) (by decide +kernel) rfl
theorem x95_74 : Ze d 95 74 [aR r, l1, l2, l3, l4, l5] st s = Ze d 95 75 [aR r, l1, l2, l3, l4, l5] (aR r :: st) s := Ze_n (i := (.aload_n 0)) (len := 1) (by decide +kernel) rfl
theorem x95_75 (h : obC r = 3) : Ze d 95 75 [l0, l1, l2, l3, l4, l5] (aR r :: st) s = Ze d 95 78 [l0, l1, l2, l3, l4, l5] (aR (fcn r 5) :: st) s := Ze_gf (len := 3) (idx := 32) (by decide +kernel) rfl h rfl
theorem x95_78 : Ze d 95 78 [l0, l1, l2, l3, aI z, l5] st s = Ze d 95 80 [l0, l1, l2, l3, aI z, l5] (aI z :: st) s := Ze_n (i := (.iload 4)) (len := 2) (by decide +kernel) rfl
theorem x95_80 (h0 : 0 ≤ i) (h1 : i < aN1 r) : Ze d 95 80 [l0, l1, l2, l3, l4, l5] (aI i :: aR r :: st) s = Ze d 95 81 [l0, l1, l2, l3, l4, l5] (aI (s r i.toNat) :: st) s := Ze_n (i := .iaload) (len := 1) (by decide +kernel) (if_pos ⟨h0, h1⟩)
theorem x95_81 : Ze d 95 81 [l0, l1, l2, l3, l4, l5] (aI z :: st) s = Ze d 95 82 [l0, l1, aI z, l3, l4, l5] st s := Ze_n (i := (.istore_n 2)) (len := 1) (by decide +kernel) rfl
theorem x95_82 : Ze d 95 82 [l0, l1, l2, aI z, l4, l5] st s = Ze d 95 85 [l0, l1, l2, aI (wrap (z + 1)), l4, l5] st s := Ze_n (i := (.iinc 3 1)) (len := 3) (by decide +kernel) rfl
theorem x95_85 : Ze d 95 85 [l0, l1, l2, l3, l4, l5] st s = Ze d 95 9 [l0, l1, l2, l3, l4, l5] st s := Ze_n (i := (.goto (-76))) (len := 3) (by decide +kernel) rfl
theorem x95_88 : Ze d 95 88 [aR r, l1, l2, l3, l4, l5] st s = Ze d 95 89 [aR r, l1, l2, l3, l4, l5] (aR r :: st) s := Ze_n (i := (.aload_n 0)) (len := 1) (by decide +kernel) rfl
theorem x95_89 (h : obC r = 3) : Ze d 95 89 [l0, l1, l2, l3, l4, l5] (aR r :: st) s = Ze d 95 92 [l0, l1, l2, l3, l4, l5] (aR (fcn r 1) :: st) s := Ze_gf (len := 3) (idx := 21) (by decide +kernel) rfl h rfl
theorem x95_92 : Ze d 95 92 [l0, l1, aI z, l3, l4, l5] st s = Ze d 95 93 [l0, l1, aI z, l3, l4, l5] (aI z :: st) s := Ze_n (i := (.iload_n 2)) (len := 1) (by decide +kernel) rfl
theorem x95_93 : Ze d 95 93 [aR r, l1, l2, l3, l4, l5] st s = Ze d 95 94 [aR r, l1, l2, l3, l4, l5] (aR r :: st) s := Ze_n (i := (.aload_n 0)) (len := 1) (by decide +kernel) rfl
theorem x95_94 (h : obC r = 3) : Ze d 95 94 [l0, l1, l2, l3, l4, l5] (aR r :: st) s = Ze d 95 97 [l0, l1, l2, l3, l4, l5] (aR (fcn r 11) :: st) s := Ze_gf (len := 3) (idx := 44) (by decide +kernel) rfl h rfl
theorem x95_97 (h : obC r = 6) (h6 : st.length ≤ 4) : Ze d 95 97 [l0, l1, l2, l3, l4, l5] (aR r2 :: aI a1 :: aR r :: st) s = zcI (Zc d 120 [aR r, aI a1, aR r2] s) d 95 100 [l0, l1, l2, l3, l4, l5] st := Ze_cvI (idx := 92) (len := 3) (as := [aI a1, aR r2]) (by decide +kernel) rfl (by decide +kernel) rfl h h6
theorem x95_100 : Ze d 95 100 [aR r, l1, l2, l3, l4, l5] st s = Ze d 95 101 [aR r, l1, l2, l3, l4, l5] (aR r :: st) s := Ze_n (i := (.aload_n 0)) (len := 1) (by decide +kernel) rfl
theorem x95_101 (h : obC r = 3) : Ze d 95 101 [l0, l1, l2, l3, l4, l5] (aR r :: st) s = Ze d 95 104 [l0, l1, l2, l3, l4, l5] (aR (fcn r 0) :: st) s := Ze_gf (len := 3) (idx := 12) (by decide +kernel) rfl h rfl
theorem x95_104 (h : obC r = 8) : Ze d 95 104 [l0, l1, l2, l3, l4, l5] (aR r :: st) s = Ze d 95 107 [l0, l1, l2, l3, l4, l5] (aR (fcn r 2) :: st) s := Ze_gf (len := 3) (idx := 96) (by decide +kernel) rfl h rfl
theorem x95_107 : Ze d 95 107 [l0, aI z, l2, l3, l4, l5] st s = Ze d 95 108 [l0, aI z, l2, l3, l4, l5] (aI z :: st) s := Ze_n (i := (.iload_n 1)) (len := 1) (by decide +kernel) rfl
theorem x95_108 (h0 : 0 ≤ i) (h1 : i < aN1 r) : Ze d 95 108 [l0, l1, l2, l3, l4, l5] (aI i :: aR r :: st) s = Ze d 95 109 [l0, l1, l2, l3, l4, l5] (aI (s r i.toNat) :: st) s := Ze_n (i := .iaload) (len := 1) (by decide +kernel) (if_pos ⟨h0, h1⟩)
theorem x95_109 (h6 : st.length ≤ 4) : Ze d 95 109 [l0, l1, l2, l3, l4, l5] (aI a0 :: st) s = zcI (Zc d 76 [aI a0] s) d 95 112 [l0, l1, l2, l3, l4, l5] st := Ze_csI (idx := 99) (len := 3) (as := [aI a0]) (by decide +kernel) rfl rfl (by decide +kernel) rfl h6
theorem x95_112 : Ze d 95 112 [l0, l1, l2, l3, l4, l5] (aI b :: aI a :: st) s = Ze d 95 113 [l0, l1, l2, l3, l4, l5] (aI (iand a b) :: st) s := Ze_n (i := .iand) (len := 1) (by decide +kernel) rfl
theorem x95_113 : Ze d 95 113 [l0, l1, l2, l3, l4, l5] [aI z] s = rI z s := Ze_i1 (by decide +kernel) rfl
theorem en95 : Zc (d + 1) 95 [aR r, aI a1] s = Ze d 95 0 [aR r, aI a1, aU, aU, aU, aU] [] s := rfl
theorem x96_0 : Ze d 96 0 [aR r, l1, l2, l3] st s = Ze d 96 1 [aR r, l1, l2, l3] (aR r :: st) s := Ze_n (i := (.aload_n 0)) (len := 1) (by decide +kernel) rfl
theorem x96_1 (h : obC r = 3) : Ze d 96 1 [l0, l1, l2, l3] (aR r :: st) s = Ze d 96 4 [l0, l1, l2, l3] (aR (fcn r 11) :: st) s := Ze_gf (len := 3) (idx := 44) (by decide +kernel) rfl h rfl
theorem x96_4 : Ze d 96 4 [l0, aI z, l2, l3] st s = Ze d 96 5 [l0, aI z, l2, l3] (aI z :: st) s := Ze_n (i := (.iload_n 1)) (len := 1) (by decide +kernel) rfl
theorem x96_5 (h0 : 0 ≤ i) (h1 : i < aN1 r) : Ze d 96 5 [l0, l1, l2, l3] (aI i :: aR r :: st) s = Ze d 96 6 [l0, l1, l2, l3] (aI (s r i.toNat) :: st) s := Ze_n (i := .iaload) (len := 1) (by decide +kernel) (if_pos ⟨h0, h1⟩)
theorem x96_6 : Ze d 96 6 [l0, l1, l2, l3] (aI z :: st) s = Ze d 96 7 [l0, l1, l2, aI z] st s := Ze_n (i := (.istore_n 3)) (len := 1) (by decide +kernel) rfl
theorem x96_7 : Ze d 96 7 [aR r, l1, l2, l3] st s = Ze d 96 8 [aR r, l1, l2, l3] (aR r :: st) s := Ze_n (i := (.aload_n 0)) (len := 1) (by decide +kernel) rfl
theorem x96_8 (h : obC r = 3) : Ze d 96 8 [l0, l1, l2, l3] (aR r :: st) s = Ze d 96 11 [l0, l1, l2, l3] (aR (fcn r 11) :: st) s := Ze_gf (len := 3) (idx := 44) (by decide +kernel) rfl h rfl
theorem x96_11 : Ze d 96 11 [l0, aI z, l2, l3] st s = Ze d 96 12 [l0, aI z, l2, l3] (aI z :: st) s := Ze_n (i := (.iload_n 1)) (len := 1) (by decide +kernel) rfl
theorem x96_12 : Ze d 96 12 [l0, l1, aI z, l3] st s = Ze d 96 13 [l0, l1, aI z, l3] (aI z :: st) s := Ze_n (i := (.iload_n 2)) (len := 1) (by decide +kernel) rfl
theorem x96_13 : Ze d 96 13 [aR r, l1, l2, l3] st s = Ze d 96 14 [aR r, l1, l2, l3] (aR r :: st) s := Ze_n (i := (.aload_n 0)) (len := 1) (by decide +kernel) rfl
theorem x96_14 (h : obC r = 3) : Ze d 96 14 [l0, l1, l2, l3] (aR r :: st) s = Ze d 96 17 [l0, l1, l2, l3] (aR (fcn r 0) :: st) s := Ze_gf (len := 3) (idx := 12) (by decide +kernel) rfl h rfl
theorem x96_17 (h : obC r = 8) : Ze d 96 17 [l0, l1, l2, l3] (aR r :: st) s = Ze d 96 20 [l0, l1, l2, l3] (aR (fcn r 2) :: st) s := Ze_gf (len := 3) (idx := 96) (by decide +kernel) rfl h rfl
theorem x96_20 : Ze d 96 20 [l0, aI z, l2, l3] st s = Ze d 96 21 [l0, aI z, l2, l3] (aI z :: st) s := Ze_n (i := (.iload_n 1)) (len := 1) (by decide +kernel) rfl
theorem x96_21 (h0 : 0 ≤ i) (h1 : i < aN1 r) : Ze d 96 21 [l0, l1, l2, l3] (aI i :: aR r :: st) s = Ze d 96 22 [l0, l1, l2, l3] (aI (s r i.toNat) :: st) s := Ze_n (i := .iaload) (len := 1) (by decide +kernel) (if_pos ⟨h0, h1⟩)
theorem x96_22 (h6 : st.length ≤ 4) : Ze d 96 22 [l0, l1, l2, l3] (aI a0 :: st) s = zcI (Zc d 76 [aI a0] s) d 96 25 [l0, l1, l2, l3] st := Ze_csI (idx := 99) (len := 3) (as := [aI a0]) (by decide +kernel) rfl rfl (by decide +kernel) rfl h6
theorem x96_25 : Ze d 96 25 [l0, l1, l2, l3] (aI b :: aI a :: st) s = Ze d 96 26 [l0, l1, l2, l3] (aI (iand a b) :: st) s := Ze_n (i := .iand) (len := 1) (by decide +kernel) rfl
theorem x96_26 (h0 : 0 ≤ i) (h1 : i < aN1 r) : Ze d 96 26 [l0, l1, l2, l3] (aI z :: aI i :: aR r :: st) s = Ze d 96 27 [l0, l1, l2, l3] st (mu s r i.toNat z) := Ze_n (i := .iastore) (len := 1) (by decide +kernel) (if_pos ⟨h0, h1⟩)
theorem x96_27 : Ze d 96 27 [aR r, l1, l2, l3] st s = Ze d 96 28 [aR r, l1, l2, l3] (aR r :: st) s := Ze_n (i := (.aload_n 0)) (len := 1) (by decide +kernel) rfl
theorem x96_28 (h : obC r = 3) (h6 : st.length ≤ 4) : Ze d 96 28 [l0, l1, l2, l3] (aR r :: st) s = zcV (Zc d 94 [aR r] s) d 96 31 [l0, l1, l2, l3] st := Ze_cvV (idx := 75) (len := 3) (as := []) (by decide +kernel) rfl (by decide +kernel) rfl h h6
theorem x96_31 : Ze d 96 31 [l0, l1, l2, aI z] st s = Ze d 96 32 [l0, l1, l2, aI z] (aI z :: st) s := Ze_n (i := (.iload_n 3)) (len := 1) (by decide +kernel) rfl
theorem x96_32 : Ze d 96 32 [l0, l1, l2, l3] [aI z] s = rI z s := Ze_i1 (by decide +kernel) rfl
theorem en96 : Zc (d + 1) 96 [aR r, aI a1, aI a2] s = Ze d 96 0 [aR r, aI a1, aI a2, aU] [] s := rfl
theorem x97_0 : Ze d 97 0 [l0, l1] st s = Ze d 97 1 [l0, l1] (aI 0 :: st) s := Ze_n (i := (.iconst 0)) (len := 1) (by decide +kernel) rfl
theorem x97_1 : Ze d 97 1 [l0, l1] (aI z :: st) s = Ze d 97 2 [l0, aI z] st s := Ze_n (i := (.istore_n 1)) (len := 1) (by decide +kernel) rfl
theorem x97_2 : Ze d 97 2 [l0, aI z] st s = Ze d 97 3 [l0, aI z] (aI z :: st) s := Ze_n (i := (.iload_n 1)) (len := 1) (by decide +kernel) rfl
theorem x97_3 : Ze d 97 3 [aR r, l1] st s = Ze d 97 4 [aR r, l1] (aR r :: st) s := Ze_n (i := (.aload_n 0)) (len := 1) (by decide +kernel) rfl
theorem x97_4 (h : obC r = 3) : Ze d 97 4 [l0, l1] (aR r :: st) s = Ze d 97 7 [l0, l1] (aR (fcn r 0) :: st) s := Ze_gf (len := 3) (idx := 12) (by decide +kernel) rfl h rfl
theorem x97_7 (h : obC r = 8) : Ze d 97 7 [l0, l1] (aR r :: st) s = Ze d 97 10 [l0, l1] (aI (s r 6) :: st) s := Ze_gf (len := 3) (idx := 56) (by decide +kernel) rfl h rfl
theorem x97_10 : Ze d 97 10 [l0, l1] (aI b :: aI a :: st) s = if a < b then Ze d 97 13 [l0, l1] st s else Ze d 97 56 [l0, l1] st s := Ze_b (i := (.if_icmp .ge 46)) (len := 3) (by decide +kernel) rfl
theorem x97_13 : Ze d 97 13 [aR r, l1] st s = Ze d 97 14 [aR r, l1] (aR r :: st) s := Ze_n (i := (.aload_n 0)) (len := 1) (by decide +kernel) rfl
theorem x97_14 (h : obC r = 3) : Ze d 97 14 [l0, l1] (aR r :: st) s = Ze d 97 17 [l0, l1] (aR (fcn r 11) :: st) s := Ze_gf (len := 3) (idx := 44) (by decide +kernel) rfl h rfl
theorem x97_17 : Ze d 97 17 [l0, aI z] st s = Ze d 97 18 [l0, aI z] (aI z :: st) s := Ze_n (i := (.iload_n 1)) (len := 1) (by decide +kernel) rfl
theorem x97_18 (h0 : 0 ≤ i) (h1 : i < aN1 r) : Ze d 97 18 [l0, l1] (aI i :: aR r :: st) s = Ze d 97 19 [l0, l1] (aI (s r i.toNat) :: st) s := Ze_n (i := .iaload) (len := 1) (by decide +kernel) (if_pos ⟨h0, h1⟩)
theorem x97_19 : Ze d 97 19 [aR r, l1] st s = Ze d 97 20 [aR r, l1] (aR r :: st) s := Ze_n (i := (.aload_n 0)) (len := 1) (by decide +kernel) rfl
theorem x97_20 (h : obC r = 3) : Ze d 97 20 [l0, l1] (aR r :: st) s = Ze d 97 23 [l0, l1] (aR (fcn r 13) :: st) s := Ze_gf (len := 3) (idx := 50) (by decide +kernel) rfl h rfl
theorem x97_23 : Ze d 97 23 [l0, aI z] st s = Ze d 97 24 [l0, aI z] (aI z :: st) s := Ze_n (i := (.iload_n 1)) (len := 1) (by decide +kernel) rfl
theorem x97_24 (h0 : 0 ≤ i) (h1 : i < aN1 r) : Ze d 97 24 [l0, l1] (aI i :: aR r :: st) s = Ze d 97 25 [l0, l1] (aI (s r i.toNat) :: st) s := Ze_n (i := .iaload) (len := 1) (by decide +kernel) (if_pos ⟨h0, h1⟩)
theorem x97_25 : Ze d 97 25 [l0, l1] (aI b :: aI a :: st) s = if a = b then Ze d 97 38 [l0, l1] st s else Ze d 97 28 [l0, l1] st s := Ze_b (i := (.if_icmp .eq 13)) (len := 3) (by decide +kernel) rfl
theorem x97_28 : Ze d 97 28 [aR r, l1] st s = Ze d 97 29 [aR r, l1] (aR r :: st) s := Ze_n (i := (.aload_n 0)) (len := 1) (by decide +kernel) rfl
theorem x97_29 (h : obC r = 3) : Ze d 97 29 [l0, l1] (aR r :: st) s = Ze d 97 32 [l0, l1] (aR (fcn r 12) :: st) s := Ze_gf (len := 3) (idx := 47) (by decide +kernel) rfl h rfl
theorem x97_32 : Ze d 97 32 [l0, aI z] st s = Ze d 97 33 [l0, aI z] (aI z :: st) s := Ze_n (i := (.iload_n 1)) (len := 1) (by decide +kernel) rfl
theorem x97_33 : Ze d 97 33 [l0, l1] (aI a :: aR r :: st) s = Ze d 97 34 [l0, l1] (aI a :: aR r :: aI a :: aR r :: st) s := Ze_n (i := .dup2) (len := 1) (by decide +kernel) rfl
theorem x97_34 (h0 : 0 ≤ i) (h1 : i < aN1 r) : Ze d 97 34 [l0, l1] (aI i :: aR r :: st) s = Ze d 97 35 [l0, l1] (aI (s r i.toNat) :: st) s := Ze_n (i := .iaload) (len := 1) (by decide +kernel) (if_pos ⟨h0, h1⟩)
theorem x97_35 : Ze d 97 35 [l0, l1] st s = Ze d 97 36 [l0, l1] (aI 1 :: st) s := Ze_n (i := (.iconst 1)) (len := 1) (by decide +kernel) rfl
theorem x97_36 : Ze d 97 36 [l0, l1] (aI b :: aI a :: st) s = Ze d 97 37 [l0, l1] (aI (wrap (a + b)) :: st) s := Ze_n (i := .iadd) (len := 1) (by decide +kernel) rfl
theorem x97_37 (h0 : 0 ≤ i) (h1 : i < aN1 r) : Ze d 97 37 [l0, l1] (aI z :: aI i :: aR r :: st) s = Ze d 97 38 [l0, l1] st (mu s r i.toNat z) := Ze_n (i := .iastore) (len := 1) (by decide +kernel) (if_pos ⟨h0, h1⟩)
theorem x97_38 : Ze d 97 38 [aR r, l1] st s = Ze d 97 39 [aR r, l1] (aR r :: st) s := Ze_n (i := (.aload_n 0)) (len := 1) (by decide +kernel) rfl
theorem x97_39 (h : obC r = 3) : Ze d 97 39 [l0, l1] (aR r :: st) s = Ze d 97 42 [l0, l1] (aR (fcn r 13) :: st) s := Ze_gf (len := 3) (idx := 50) (by decide +kernel) rfl h rfl
theorem x97_42 : Ze d 97 42 [l0, aI z] st s = Ze d 97 43 [l0, aI z] (aI z :: st) s := Ze_n (i := (.iload_n 1)) (len := 1) (by decide +kernel) rfl
theorem x97_43 : Ze d 97 43 [aR r, l1] st s = Ze d 97 44 [aR r, l1] (aR r :: st) s := Ze_n (i := (.aload_n 0)) (len := 1) (by decide +kernel) rfl
theorem x97_44 (h : obC r = 3) : Ze d 97 44 [l0, l1] (aR r :: st) s = Ze d 97 47 [l0, l1] (aR (fcn r 11) :: st) s := Ze_gf (len := 3) (idx := 44) (by decide +kernel) rfl h rfl
theorem x97_47 : Ze d 97 47 [l0, aI z] st s = Ze d 97 48 [l0, aI z] (aI z :: st) s := Ze_n (i := (.iload_n 1)) (len := 1) (by decide +kernel) rfl
theorem x97_48 (h0 : 0 ≤ i) (h1 : i < aN1 r) : Ze d 97 48 [l0, l1] (aI i :: aR r :: st) s = Ze d 97 49 [l0, l1] (aI (s r i.toNat) :: st) s := Ze_n (i := .iaload) (len := 1) (by decide +kernel) (if_pos ⟨h0, h1⟩)
theorem x97_49 (h0 : 0 ≤ i) (h1 : i < aN1 r) : Ze d 97 49 [l0, l1] (aI z :: aI i :: aR r :: st) s = Ze d 97 50 [l0, l1] st (mu s r i.toNat z) := Ze_n (i := .iastore) (len := 1) (by decide +kernel) (if_pos ⟨h0, h1⟩)
theorem x97_50 : Ze d 97 50 [l0, aI z] st s = Ze d 97 53 [l0, aI (wrap (z + 1))] st s := Ze_n (i := (.iinc 1 1)) (len := 3) (by decide +kernel) rfl
theorem x97_53 : Ze d 97 53 [l0, l1] st s = Ze d 97 2 [l0, l1] st s := Ze_n (i := (.goto (-51))) (len := 3) (by decide +kernel) rfl
theorem x97_56 : Ze d 97 56 [l0, l1] st s = Ze d 97 57 [l0, l1] (aI 0 :: st) s := Ze_n (i := (.iconst 0)) (len := 1) (by decide +kernel) rfl
theorem x97_57 : Ze d 97 57 [l0, l1] (aI z :: st) s = Ze d 97 58 [l0, aI z] st s := Ze_n (i := (.istore_n 1)) (len := 1) (by decide +kernel) rfl
theorem x97_58 : Ze d 97 58 [l0, aI z] st s = Ze d 97 59 [l0, aI z] (aI z :: st) s := Ze_n (i := (.iload_n 1)) (len := 1) (by decide +kernel) rfl
theorem x97_59 : Ze d 97 59 [aR r, l1] st s = Ze d 97 60 [aR r, l1] (aR r :: st) s := Ze_n (i := (.aload_n 0)) (len := 1) (by decide +kernel) rfl
theorem x97_60 (h : obC r = 3) : Ze d 97 60 [l0, l1] (aR r :: st) s = Ze d 97 63 [l0, l1] (aR (fcn r 0) :: st) s := Ze_gf (len := 3) (idx := 12) (by decide +kernel) rfl h rfl
theorem x97_63 (h : obC r = 8) : Ze d 97 63 [l0, l1] (aR r :: st) s = Ze d 97 66 [l0, l1] (aI (s r 6) :: st) s := Ze_gf (len := 3) (idx := 56) (by decide +kernel) rfl h rfl
theorem x97_66 : Ze d 97 66 [l0, l1] (aI b :: aI a :: st) s = if a < b then Ze d 97 69 [l0, l1] st s else Ze d 97 108 [l0, l1] st s := Ze_b (i := (.if_icmp .ge 42)) (len := 3) (by decide +kernel) rfl
theorem x97_69 : Ze d 97 69 [aR r, l1] st s = Ze d 97 70 [aR r, l1] (aR r :: st) s := Ze_n (i := (.aload_n 0)) (len := 1) (by decide +kernel) rfl
theorem x97_70 (h : obC r = 3) : Ze d 97 70 [l0, l1] (aR r :: st) s = Ze d 97 73 [l0, l1] (aR (fcn r 14) :: st) s := Ze_gf (len := 3) (idx := 53) (by decide +kernel) rfl h rfl
theorem x97_73 : Ze d 97 73 [l0, aI z] st s = Ze d 97 74 [l0, aI z] (aI z :: st) s := Ze_n (i := (.iload_n 1)) (len := 1) (by decide +kernel) rfl
theorem x97_74 : Ze d 97 74 [aR r, l1] st s = Ze d 97 75 [aR r, l1] (aR r :: st) s := Ze_n (i := (.aload_n 0)) (len := 1) (by decide +kernel) rfl
theorem x97_75 (h : obC r = 3) : Ze d 97 75 [l0, l1] (aR r :: st) s = Ze d 97 78 [l0, l1] (aR (fcn r 0) :: st) s := Ze_gf (len := 3) (idx := 12) (by decide +kernel) rfl h rfl
theorem x97_78 (h : obC r = 8) : Ze d 97 78 [l0, l1] (aR r :: st) s = Ze d 97 81 [l0, l1] (aR (fcn r 0) :: st) s := Ze_gf (len := 3) (idx := 82) (by decide +kernel) rfl h rfl
theorem x97_81 : Ze d 97 81 [l0, aI z] st s = Ze d 97 82 [l0, aI z] (aI z :: st) s := Ze_n (i := (.iload_n 1)) (len := 1) (by decide +kernel) rfl
theorem x97_82 (h0 : 0 ≤ i) (h1 : i < aN1 r) : Ze d 97 82 [l0, l1] (aI i :: aR r :: st) s = Ze d 97 83 [l0, l1] (aI (s r i.toNat) :: st) s := Ze_n (i := .iaload) (len := 1) (by decide +kernel) (if_pos ⟨h0, h1⟩)
theorem x97_83 : Ze d 97 83 [l0, l1] st s = Ze d 97 84 [l0, l1] (aI 3 :: st) s := Ze_n (i := (.iconst 3)) (len := 1) (by decide +kernel) rfl
theorem x97_84 : Ze d 97 84 [l0, l1] (aI b :: aI a :: st) s = if a = b then Ze d 97 87 [l0, l1] st s else Ze d 97 95 [l0, l1] st s := Ze_b (i := (.if_icmp .ne 11)) (len := 3) (by decide +kernel) rfl
theorem x97_87 : Ze d 97 87 [aR r, l1] st s = Ze d 97 88 [aR r, l1] (aR r :: st) s := Ze_n (i := (.aload_n 0)) (len := 1) (by decide +kernel) rfl
theorem x97_88 : Ze d 97 88 [l0, aI z] st s = Ze d 97 89 [l0, aI z] (aI z :: st) s := Ze_n (i := (.iload_n 1)) (len := 1) (by decide +kernel) rfl
theorem x97_89 (h : obC r = 3) (h6 : st.length ≤ 4) : Ze d 97 89 [l0, l1] (aI a1 :: aR r :: st) s = zcI (Zc d 95 [aR r, aI a1] s) d 97 92 [l0, l1] st := Ze_cvI (idx := 88) (len := 3) (as := [aI a1]) (by decide +kernel) rfl (by decide +kernel) rfl h h6
theorem x97_92 : Ze d 97 92 [l0, l1] st s = Ze d 97 101 [l0, l1] st s := Ze_n (i := (.goto 9)) (len := 3) (by decide +kernel) rfl
theorem x97_95 : Ze d 97 95 [aR r, l1] st s = Ze d 97 96 [aR r, l1] (aR r :: st) s := Ze_n (i := (.aload_n 0)) (len := 1) (by decide +kernel) rfl
theorem x97_96 (h : obC r = 3) : Ze d 97 96 [l0, l1] (aR r :: st) s = Ze d 97 99 [l0, l1] (aR (fcn r 11) :: st) s := Ze_gf (len := 3) (idx := 44) (by decide +kernel) rfl h rfl
theorem x97_99 : Ze d 97 99 [l0, aI z] st s = Ze d 97 100 [l0, aI z] (aI z :: st) s := Ze_n (i := (.iload_n 1)) (len := 1) (by decide +kernel) rfl
theorem x97_100 (h0 : 0 ≤ i) (h1 : i < aN1 r) : Ze d 97 100 [l0, l1] (aI i :: aR r :: st) s = Ze d 97 101 [l0, l1] (aI (s r i.toNat) :: st) s := Ze_n (i := .iaload) (len := 1) (by decide +kernel) (if_pos ⟨h0, h1⟩)
theorem x97_101 (h0 : 0 ≤ i) (h1 : i < aN1 r) : Ze d 97 101 [l0, l1] (aI z :: aI i :: aR r :: st) s = Ze d 97 102 [l0, l1] st (mu s r i.toNat z) := Ze_n (i := .iastore) (len := 1) (by decide +kernel) (if_pos ⟨h0, h1⟩)
theorem x97_102 : Ze d 97 102 [l0, aI z] st s = Ze d 97 105 [l0, aI (wrap (z + 1))] st s := Ze_n (i := (.iinc 1 1)) (len := 3) (by decide +kernel) rfl
theorem x97_105 : Ze d 97 105 [l0, l1] st s = Ze d 97 58 [l0, l1] st s := Ze_n (i := (.goto (-47))) (len := 3) (by decide +kernel) rfl
theorem x97_108 : Ze d 97 108 [aR r, l1] st s = Ze d 97 109 [aR r, l1] (aR r :: st) s := Ze_n (i := (.aload_n 0)) (len := 1) (by decide +kernel) rfl
theorem x97_109 (h : obC r = 3) : Ze d 97 109 [l0, l1] (aR r :: st) s = Ze d 97 112 [l0, l1] (aR (fcn r 14) :: st) s := Ze_gf (len := 3) (idx := 53) (by decide +kernel) rfl h rfl
theorem x97_112 : Ze d 97 112 [l0, l1] st s = Ze d 97 113 [l0, l1] (aI 0 :: st) s := Ze_n (i := (.iconst 0)) (len := 1) (by decide +kernel) rfl
theorem x97_113 : Ze d 97 113 [aR r, l1] st s = Ze d 97 114 [aR r, l1] (aR r :: st) s := Ze_n (i := (.aload_n 0)) (len := 1) (by decide +kernel) rfl
theorem x97_114 (h : obC r = 3) : Ze d 97 114 [l0, l1] (aR r :: st) s = Ze d 97 117 [l0, l1] (aR (fcn r 11) :: st) s := Ze_gf (len := 3) (idx := 44) (by decide +kernel) rfl h rfl
theorem x97_117 : Ze d 97 117 [l0, l1] st s = Ze d 97 118 [l0, l1] (aI 0 :: st) s := Ze_n (i := (.iconst 0)) (len := 1) (by decide +kernel) rfl
theorem x97_118 : Ze d 97 118 [aR r, l1] st s = Ze d 97 119 [aR r, l1] (aR r :: st) s := Ze_n (i := (.aload_n 0)) (len := 1) (by decide +kernel) rfl
theorem x97_119 (h : obC r = 3) : Ze d 97 119 [l0, l1] (aR r :: st) s = Ze d 97 122 [l0, l1] (aR (fcn r 0) :: st) s := Ze_gf (len := 3) (idx := 12) (by decide +kernel) rfl h rfl
theorem x97_122 (h : obC r = 8) : Ze d 97 122 [l0, l1] (aR r :: st) s = Ze d 97 125 [l0, l1] (aI (s r 6) :: st) s := Ze_gf (len := 3) (idx := 56) (by decide +kernel) rfl h rfl
theorem x97_125 (h1 : 0 ≤ n) (h2 : 0 ≤ dp) (h3 : 0 ≤ sp) (h4 : sp + n ≤ aN1 q) (h5 : dp + n ≤ aN1 r) (h7 : 0 < aN1 q) (h8 : 0 < aN1 r) (h6 : st.length ≤ 4) : Ze d 97 125 [l0, l1] (aI n :: aI dp :: aR r :: aI sp :: aR q :: st) s = Ze d 97 128 [l0, l1] st (cpM s q sp.toNat r dp.toNat n.toNat) := Ze_n (i := .invokestatic 102) (len := 3) (by decide +kernel) (if_pos ⟨h1, h2, h3, h4, h5, h7, h8, h6⟩)
theorem x97_128 : Ze d 97 128 [aR r, l1] st s = Ze d 97 129 [aR r, l1] (aR r :: st) s := Ze_n (i := (.aload_n 0)) (len := 1) (by decide +kernel) rfl
theorem x97_129 (h : obC r = 3) (h6 : st.length ≤ 4) : Ze d 97 129 [l0, l1] (aR r :: st) s = zcV (Zc d 94 [aR r] s) d 97 132 [l0, l1] st := Ze_cvV (idx := 75) (len := 3) (as := []) (by decide +kernel) rfl (by decide +kernel) rfl h h6
theorem x97_132 : Ze d 97 132 [aR r, l1] st s = Ze d 97 133 [aR r, l1] (aR r :: st) s := Ze_n (i := (.aload_n 0)) (len := 1) (by decide +kernel) rfl
theorem x97_133 : Ze d 97 133 [l0, l1] (aR r :: st) s = Ze d 97 134 [l0, l1] (aR r :: aR r :: st) s := Ze_n (i := .dup) (len := 1) (by decide +kernel) rfl
theorem x97_133i : Ze d 97 133 [l0, l1] (aI a :: st) s = Ze d 97 134 [l0, l1] (aI a :: aI a :: st) s := Ze_n (i := .dup) (len := 1) (by decide +kernel) rfl
theorem x97_134 (h : obC r = 3) : Ze d 97 134 [l0, l1] (aR r :: st) s = Ze d 97 137 [l0, l1] (aI (s r 15) :: st) s := Ze_gf (len := 3) (idx := 63) (by decide +kernel) rfl h rfl
theorem x97_137 : Ze d 97 137 [l0, l1] st s = Ze d 97 138 [l0, l1] (aI 1 :: st) s := Ze_n (i := (.iconst 1)) (len := 1) (by decide +kernel) rfl
theorem x97_138 : Ze d 97 138 [l0, l1] (aI b :: aI a :: st) s = Ze d 97 139 [l0, l1] (aI (wrap (a + b)) :: st) s := Ze_n (i := .iadd) (len := 1) (by decide +kernel) rfl
theorem x97_139 (h : obC r = 3) : Ze d 97 139 [l0, l1] (aI z :: aR r :: st) s = Ze d 97 142 [l0, l1] st (mu s r 15 z) := Ze_n (i := .putfield 63) (len := 3) (by decide +kernel) (if_pos h)
theorem x97_142 : Ze d 97 142 [l0, l1] [] s = rV s := Ze_v (by decide +kernel) rfl
theorem en97 : Zc (d + 1) 97 [aR r] s = Ze d 97 0 [aR r, aU] [] s := rfl
