variable {d r q : Nat} {l0 l1 l2 l3 l4 l5 l6 l7 l8 l9 l10 l11 l12 l13 l14 l15 : AV} {st : List AV} {s : Mem} {a b z i n dp sp a0 a1 a2 a3 a4 a5 a6 : Int} {r0 r1 r2 r3 r4 : Nat}
theorem x141_0 : Ze d 141 0 [aR r, l1] st s = Ze d 141 1 [aR r, l1] (aR r :: st) s := Ze_n (i := (.aload_n 0)) (len := 1) (by decide +kernel) rfl
theorem x141_1 (h : obC r = 7) (h6 : st.length ≤ 4) : Ze d 141 1 [l0, l1] (aR r :: st) s = zcI (Zc d 138 [aR r] s) d 141 4 [l0, l1] st := Ze_cvI (idx := 38) (len := 3) (as := []) (by decide +kernel) rfl (by decide +kernel) rfl h h6
theorem x141_4 : Ze d 141 4 [l0, aI z] st s = Ze d 141 5 [l0, aI z] (aI z :: st) s := Ze_n (i := (.iload_n 1)) (len := 1) (by decide +kernel) rfl
theorem x141_5 : Ze d 141 5 [l0, l1] (aI b :: aI a :: st) s = if a = b then Ze d 141 15 [l0, l1] st s else Ze d 141 8 [l0, l1] st s := Ze_b (i := (.if_icmp .eq 10)) (len := 3) (by decide +kernel) rfl
theorem x141_8 : Ze d 141 8 [aR r, l1] st s = Ze d 141 9 [aR r, l1] (aR r :: st) s := Ze_n (i := (.aload_n 0)) (len := 1) (by decide +kernel) rfl
theorem x141_9 (h : obC r = 7) (h6 : st.length ≤ 4) : Ze d 141 9 [l0, l1] (aR r :: st) s = zcI (Zc d 142 [aR r] s) d 141 12 [l0, l1] st := Ze_cvI (idx := 75) (len := 3) (as := []) (by decide +kernel) rfl (by decide +kernel) rfl h h6
theorem x141_12 : Ze d 141 12 [l0, l1] (aI a :: st) s = Ze d 141 13 [l0, l1] st s := Ze_n (i := .pop) (len := 1) (by decide +kernel) rfl
theorem x141_13 : Ze d 141 13 [l0, l1] st s = Ze d 141 14 [l0, l1] (aI 0 :: st) s := Ze_n (i := (.iconst 0)) (len := 1) (by decide +kernel) rfl
theorem x141_14 (h : z = 0 ∨ z = 1) : Ze d 141 14 [l0, l1] [aI z] s = rI z s := Ze_i2 (by decide +kernel) rfl h
theorem x141_15 : Ze d 141 15 [aR r, l1] st s = Ze d 141 16 [aR r, l1] (aR r :: st) s := Ze_n (i := (.aload_n 0)) (len := 1) (by decide +kernel) rfl
theorem x141_16 : Ze d 141 16 [l0, l1] (aR r :: st) s = Ze d 141 17 [l0, l1] (aR r :: aR r :: st) s := Ze_n (i := .dup) (len := 1) (by decide +kernel) rfl
theorem x141_16i : Ze d 141 16 [l0, l1] (aI a :: st) s = Ze d 141 17 [l0, l1] (aI a :: aI a :: st) s := Ze_n (i := .dup) (len := 1) (by decide +kernel) rfl
theorem x141_17 (h : obC r = 7) : Ze d 141 17 [l0, l1] (aR r :: st) s = Ze d 141 20 [l0, l1] (aI (s r 4) :: st) s := Ze_gf (len := 3) (idx := 72) (by decide +kernel) rfl h rfl
theorem x141_20 : Ze d 141 20 [l0, l1] st s = Ze d 141 21 [l0, l1] (aI 1 :: st) s := Ze_n (i := (.iconst 1)) (len := 1) (by decide +kernel) rfl
theorem x141_21 : Ze d 141 21 [l0, l1] (aI b :: aI a :: st) s = Ze d 141 22 [l0, l1] (aI (wrap (a + b)) :: st) s := Ze_n (i := .iadd) (len := 1) (by decide +kernel) rfl
theorem x141_22 (h : obC r = 7) : Ze d 141 22 [l0, l1] (aI z :: aR r :: st) s = Ze d 141 25 [l0, l1] st (mu s r 4 z) := Ze_n (i := .putfield 72) (len := 3) (by decide +kernel) (if_pos h)
theorem x141_25 : Ze d 141 25 [l0, l1] st s = Ze d 141 26 [l0, l1] (aI 1 :: st) s := Ze_n (i := (.iconst 1)) (len := 1) (by decide +kernel) rfl
theorem x141_26 (h : z = 0 ∨ z = 1) : Ze d 141 26 [l0, l1] [aI z] s = rI z s := Ze_i2 (by decide +kernel) rfl h
theorem en141 : Zc (d + 1) 141 [aR r, aI a1] s = Ze d 141 0 [aR r, aI a1] [] s := rfl
theorem x142_0 : Ze d 142 0 [aR r] st s = Ze d 142 1 [aR r] (aR r :: st) s := Ze_n (i := (.aload_n 0)) (len := 1) (by decide +kernel) rfl
theorem x142_1 : Ze d 142 1 [aR r] st s = Ze d 142 2 [aR r] (aR r :: st) s := Ze_n (i := (.aload_n 0)) (len := 1) (by decide +kernel) rfl
theorem x142_2 (h : obC r = 7) : Ze d 142 2 [l0] (aR r :: st) s = Ze d 142 5 [l0] (aR (fcn r 0) :: st) s := Ze_gf (len := 3) (idx := 15) (by decide +kernel) rfl h rfl
theorem x142_5 (h : obC r = 11) : Ze d 142 5 [l0] (aR r :: st) s = Ze d 142 8 [l0] (aR (fcn r 1) :: st) s := Ze_gf (len := 3) (idx := 78) (by decide +kernel) rfl h rfl
theorem x142_8 : Ze d 142 8 [aR r] st s = Ze d 142 9 [aR r] (aR r :: st) s := Ze_n (i := (.aload_n 0)) (len := 1) (by decide +kernel) rfl
theorem x142_9 (h : obC r = 7) : Ze d 142 9 [l0] (aR r :: st) s = Ze d 142 12 [l0] (aI (s r 4) :: st) s := Ze_gf (len := 3) (idx := 72) (by decide +kernel) rfl h rfl
theorem x142_12 (h0 : 0 ≤ i) (h1 : i < aN1 r) : Ze d 142 12 [l0] (aI i :: aR r :: st) s = Ze d 142 13 [l0] (aI (s r i.toNat) :: st) s := Ze_n (i := .iaload) (len := 1) (by decide +kernel) (if_pos ⟨h0, h1⟩)
theorem x142_13 (h : obC r = 7) : Ze d 142 13 [l0] (aI z :: aR r :: st) s = Ze d 142 16 [l0] st (mu s r 5 z) := Ze_n (i := .putfield 31) (len := 3) (by decide +kernel) (if_pos h)
theorem x142_16 : Ze d 142 16 [l0] st s = Ze d 142 17 [l0] (aI (-1) :: st) s := Ze_n (i := (.iconst (-1))) (len := 1) (by decide +kernel) rfl
theorem x142_17 : Ze d 142 17 [l0] [aI z] s = rI z s := Ze_i1 (by decide +kernel) rfl
theorem en142 : Zc (d + 1) 142 [aR r] s = Ze d 142 0 [aR r] [] s := rfl
theorem x138_0 : Ze d 138 0 [aR r] st s = Ze d 138 1 [aR r] (aR r :: st) s := Ze_n (i := (.aload_n 0)) (len := 1) (by decide +kernel) rfl
theorem x138_1 (h : obC r = 7) : Ze d 138 1 [l0] (aR r :: st) s = Ze d 138 4 [l0] (aR (fcn r 0) :: st) s := Ze_gf (len := 3) (idx := 15) (by decide +kernel) rfl h rfl
theorem x138_4 (h : obC r = 11) : Ze d 138 4 [l0] (aR r :: st) s = Ze d 138 7 [l0] (aR (fcn r 0) :: st) s := Ze_gf (len := 3) (idx := 161) (by decide +kernel) rfl h rfl
theorem x138_7 : Ze d 138 7 [aR r] st s = Ze d 138 8 [aR r] (aR r :: st) s := Ze_n (i := (.aload_n 0)) (len := 1) (by decide +kernel) rfl
theorem x138_8 (h : obC r = 7) : Ze d 138 8 [l0] (aR r :: st) s = Ze d 138 11 [l0] (aI (s r 4) :: st) s := Ze_gf (len := 3) (idx := 72) (by decide +kernel) rfl h rfl
theorem x138_11 (h0 : 0 ≤ i) (h1 : i < aN1 r) : Ze d 138 11 [l0] (aI i :: aR r :: st) s = Ze d 138 12 [l0] (aI (s r i.toNat) :: st) s := Ze_n (i := .iaload) (len := 1) (by decide +kernel) (if_pos ⟨h0, h1⟩)
theorem x138_12 : Ze d 138 12 [l0] [aI z] s = rI z s := Ze_i1 (by decide +kernel) rfl
theorem en138 : Zc (d + 1) 138 [aR r] s = Ze d 138 0 [aR r] [] s := rfl
theorem x139_0 : Ze d 139 0 [aR r, l1] st s = Ze d 139 1 [aR r, l1] (aR r :: st) s := Ze_n (i := (.aload_n 0)) (len := 1) (by decide +kernel) rfl
theorem x139_1 (h : obC r = 7) (h6 : st.length ≤ 4) : Ze d 139 1 [l0, l1] (aR r :: st) s = zcI (Zc d 138 [aR r] s) d 139 4 [l0, l1] st := Ze_cvI (idx := 38) (len := 3) (as := []) (by decide +kernel) rfl (by decide +kernel) rfl h h6
theorem x139_4 : Ze d 139 4 [l0, l1] (aI z :: st) s = Ze d 139 5 [l0, aI z] st s := Ze_n (i := (.istore_n 1)) (len := 1) (by decide +kernel) rfl
theorem x139_5 : Ze d 139 5 [l0, aI z] st s = Ze d 139 6 [l0, aI z] (aI z :: st) s := Ze_n (i := (.iload_n 1)) (len := 1) (by decide +kernel) rfl
theorem x139_6 : Ze d 139 6 [l0, l1] st s = Ze d 139 8 [l0, l1] (aI 97 :: st) s := Ze_n (i := (.bipush 97)) (len := 2) (by decide +kernel) rfl
theorem x139_8 : Ze d 139 8 [l0, l1] (aI b :: aI a :: st) s = if a < b then Ze d 139 17 [l0, l1] st s else Ze d 139 11 [l0, l1] st s := Ze_b (i := (.if_icmp .lt 9)) (len := 3) (by decide +kernel) rfl
theorem x139_11 : Ze d 139 11 [l0, aI z] st s = Ze d 139 12 [l0, aI z] (aI z :: st) s := Ze_n (i := (.iload_n 1)) (len := 1) (by decide +kernel) rfl
theorem x139_12 : Ze d 139 12 [l0, l1] st s = Ze d 139 14 [l0, l1] (aI 122 :: st) s := Ze_n (i := (.bipush 122)) (len := 2) (by decide +kernel) rfl
theorem x139_14 : Ze d 139 14 [l0, l1] (aI b :: aI a :: st) s = if b < a then Ze d 139 17 [l0, l1] st s else Ze d 139 22 [l0, l1] st s := Ze_b (i := (.if_icmp .le 8)) (len := 3) (by decide +kernel) rfl
theorem x139_17 : Ze d 139 17 [aR r, l1] st s = Ze d 139 18 [aR r, l1] (aR r :: st) s := Ze_n (i := (.aload_n 0)) (len := 1) (by decide +kernel) rfl
theorem x139_18 (h : obC r = 7) (h6 : st.length ≤ 4) : Ze d 139 18 [l0, l1] (aR r :: st) s = zcI (Zc d 142 [aR r] s) d 139 21 [l0, l1] st := Ze_cvI (idx := 75) (len := 3) (as := []) (by decide +kernel) rfl (by decide +kernel) rfl h h6
theorem x139_21 : Ze d 139 21 [l0, l1] [aI z] s = rI z s := Ze_i1 (by decide +kernel) rfl
theorem x139_22 : Ze d 139 22 [aR r, l1] st s = Ze d 139 23 [aR r, l1] (aR r :: st) s := Ze_n (i := (.aload_n 0)) (len := 1) (by decide +kernel) rfl
theorem x139_23 : Ze d 139 23 [l0, l1] (aR r :: st) s = Ze d 139 24 [l0, l1] (aR r :: aR r :: st) s := Ze_n (i := .dup) (len := 1) (by decide +kernel) rfl
theorem x139_23i : Ze d 139 23 [l0, l1] (aI a :: st) s = Ze d 139 24 [l0, l1] (aI a :: aI a :: st) s := Ze_n (i := .dup) (len := 1) (by decide +kernel) rfl
theorem x139_24 (h : obC r = 7) : Ze d 139 24 [l0, l1] (aR r :: st) s = Ze d 139 27 [l0, l1] (aI (s r 4) :: st) s := Ze_gf (len := 3) (idx := 72) (by decide +kernel) rfl h rfl
theorem x139_27 : Ze d 139 27 [l0, l1] st s = Ze d 139 28 [l0, l1] (aI 1 :: st) s := Ze_n (i := (.iconst 1)) (len := 1) (by decide +kernel) rfl
theorem x139_28 : Ze d 139 28 [l0, l1] (aI b :: aI a :: st) s = Ze d 139 29 [l0, l1] (aI (wrap (a + b)) :: st) s := Ze_n (i := .iadd) (len := 1) (by decide +kernel) rfl
theorem x139_29 (h : obC r = 7) : Ze d 139 29 [l0, l1] (aI z :: aR r :: st) s = Ze d 139 32 [l0, l1] st (mu s r 4 z) := Ze_n (i := .putfield 72) (len := 3) (by decide +kernel) (if_pos h)
theorem x139_32 : Ze d 139 32 [l0, aI z] st s = Ze d 139 33 [l0, aI z] (aI z :: st) s := Ze_n (i := (.iload_n 1)) (len := 1) (by decide +kernel) rfl
theorem x139_33 : Ze d 139 33 [l0, l1] st s = Ze d 139 35 [l0, l1] (aI 97 :: st) s := Ze_n (i := (.bipush 97)) (len := 2) (by decide +kernel) rfl
theorem x139_35 : Ze d 139 35 [l0, l1] (aI b :: aI a :: st) s = Ze d 139 36 [l0, l1] (aI (wrap (a - b)) :: st) s := Ze_n (i := .isub) (len := 1) (by decide +kernel) rfl
theorem x139_36 : Ze d 139 36 [l0, l1] [aI z] s = rI z s := Ze_i1 (by decide +kernel) rfl
theorem en139 : Zc (d + 1) 139 [aR r] s = Ze d 139 0 [aR r, aU] [] s := rfl
theorem x140_0 : Ze d 140 0 [aR r, l1, l2, l3] st s = Ze d 140 1 [aR r, l1, l2, l3] (aR r :: st) s := Ze_n (i := (.aload_n 0)) (len := 1) (by decide +kernel) rfl
theorem x140_1 (h : obC r = 7) : Ze d 140 1 [l0, l1, l2, l3] (aR r :: st) s = Ze d 140 4 [l0, l1, l2, l3] (aR (fcn r 0) :: st) s := Ze_gf (len := 3) (idx := 15) (by decide +kernel) rfl h rfl
theorem x140_4 (h : obC r = 11) : Ze d 140 4 [l0, l1, l2, l3] (aR r :: st) s = Ze d 140 7 [l0, l1, l2, l3] (aR (fcn r 2) :: st) s := Ze_gf (len := 3) (idx := 163) (by decide +kernel) rfl h rfl
theorem x140_7 : Ze d 140 7 [aR r, l1, l2, l3] st s = Ze d 140 8 [aR r, l1, l2, l3] (aR r :: st) s := Ze_n (i := (.aload_n 0)) (len := 1) (by decide +kernel) rfl
theorem x140_8 (h : obC r = 7) : Ze d 140 8 [l0, l1, l2, l3] (aR r :: st) s = Ze d 140 11 [l0, l1, l2, l3] (aI (s r 4) :: st) s := Ze_gf (len := 3) (idx := 72) (by decide +kernel) rfl h rfl
theorem x140_11 (h0 : 0 ≤ i) (h1 : i < aN1 r) : Ze d 140 11 [l0, l1, l2, l3] (aI i :: aR r :: st) s = Ze d 140 12 [l0, l1, l2, l3] (aI (s r i.toNat) :: st) s := Ze_n (i := .iaload) (len := 1) (by decide +kernel) (if_pos ⟨h0, h1⟩)
theorem x140_12 : Ze d 140 12 [l0, l1, l2, l3] (aI z :: st) s = Ze d 140 13 [l0, l1, l2, aI z] st s := Ze_n (i := (.istore_n 3)) (len := 1) (by decide +kernel) rfl
theorem x140_13 : Ze d 140 13 [aR r, l1, l2, l3] st s = Ze d 140 14 [aR r, l1, l2, l3] (aR r :: st) s := Ze_n (i := (.aload_n 0)) (len := 1) (by decide +kernel) rfl
theorem x140_14 (h : obC r = 7) (h6 : st.length ≤ 4) : Ze d 140 14 [l0, l1, l2, l3] (aR r :: st) s = zcI (Zc d 138 [aR r] s) d 140 17 [l0, l1, l2, l3] st := Ze_cvI (idx := 38) (len := 3) (as := []) (by decide +kernel) rfl (by decide +kernel) rfl h h6
theorem x140_17 : Ze d 140 17 [l0, l1, l2, l3] st s = Ze d 140 18 [l0, l1, l2, l3] (aI 2 :: st) s := Ze_n (i := (.iconst 2)) (len := 1) (by decide +kernel) rfl
theorem x140_18 : Ze d 140 18 [l0, l1, l2, l3] (aI b :: aI a :: st) s = if a = b then Ze d 140 21 [l0, l1, l2, l3] st s else Ze d 140 31 [l0, l1, l2, l3] st s := Ze_b (i := (.if_icmp .ne 13)) (len := 3) (by decide +kernel) rfl
theorem x140_21 : Ze d 140 21 [l0, l1, l2, aI z] st s = Ze d 140 22 [l0, l1, l2, aI z] (aI z :: st) s := Ze_n (i := (.iload_n 3)) (len := 1) (by decide +kernel) rfl
theorem x140_22 : Ze d 140 22 [l0, aI z, l2, l3] st s = Ze d 140 23 [l0, aI z, l2, l3] (aI z :: st) s := Ze_n (i := (.iload_n 1)) (len := 1) (by decide +kernel) rfl
theorem x140_23 : Ze d 140 23 [l0, l1, l2, l3] (aI b :: aI a :: st) s = if a < b then Ze d 140 31 [l0, l1, l2, l3] st s else Ze d 140 26 [l0, l1, l2, l3] st s := Ze_b (i := (.if_icmp .lt 8)) (len := 3) (by decide +kernel) rfl
theorem x140_26 : Ze d 140 26 [l0, l1, l2, aI z] st s = Ze d 140 27 [l0, l1, l2, aI z] (aI z :: st) s := Ze_n (i := (.iload_n 3)) (len := 1) (by decide +kernel) rfl
theorem x140_27 : Ze d 140 27 [l0, l1, aI z, l3] st s = Ze d 140 28 [l0, l1, aI z, l3] (aI z :: st) s := Ze_n (i := (.iload_n 2)) (len := 1) (by decide +kernel) rfl
theorem x140_28 : Ze d 140 28 [l0, l1, l2, l3] (aI b :: aI a :: st) s = if b < a then Ze d 140 31 [l0, l1, l2, l3] st s else Ze d 140 36 [l0, l1, l2, l3] st s := Ze_b (i := (.if_icmp .le 8)) (len := 3) (by decide +kernel) rfl
theorem x140_31 : Ze d 140 31 [aR r, l1, l2, l3] st s = Ze d 140 32 [aR r, l1, l2, l3] (aR r :: st) s := Ze_n (i := (.aload_n 0)) (len := 1) (by decide +kernel) rfl
theorem x140_32 (h : obC r = 7) (h6 : st.length ≤ 4) : Ze d 140 32 [l0, l1, l2, l3] (aR r :: st) s = zcI (Zc d 142 [aR r] s) d 140 35 [l0, l1, l2, l3] st := Ze_cvI (idx := 75) (len := 3) (as := []) (by decide +kernel) rfl (by decide +kernel) rfl h h6
theorem x140_35 : Ze d 140 35 [l0, l1, l2, l3] [aI z] s = rI z s := Ze_i1 (by decide +kernel) rfl
theorem x140_36 : Ze d 140 36 [aR r, l1, l2, l3] st s = Ze d 140 37 [aR r, l1, l2, l3] (aR r :: st) s := Ze_n (i := (.aload_n 0)) (len := 1) (by decide +kernel) rfl
theorem x140_37 : Ze d 140 37 [l0, l1, l2, l3] (aR r :: st) s = Ze d 140 38 [l0, l1, l2, l3] (aR r :: aR r :: st) s := Ze_n (i := .dup) (len := 1) (by decide +kernel) rfl
theorem x140_37i : Ze d 140 37 [l0, l1, l2, l3] (aI a :: st) s = Ze d 140 38 [l0, l1, l2, l3] (aI a :: aI a :: st) s := Ze_n (i := .dup) (len := 1) (by decide +kernel) rfl
theorem x140_38 (h : obC r = 7) : Ze d 140 38 [l0, l1, l2, l3] (aR r :: st) s = Ze d 140 41 [l0, l1, l2, l3] (aI (s r 4) :: st) s := Ze_gf (len := 3) (idx := 72) (by decide +kernel) rfl h rfl
theorem x140_41 : Ze d 140 41 [l0, l1, l2, l3] st s = Ze d 140 42 [l0, l1, l2, l3] (aI 1 :: st) s := Ze_n (i := (.iconst 1)) (len := 1) (by decide +kernel) rfl
theorem x140_42 : Ze d 140 42 [l0, l1, l2, l3] (aI b :: aI a :: st) s = Ze d 140 43 [l0, l1, l2, l3] (aI (wrap (a + b)) :: st) s := Ze_n (i := .iadd) (len := 1) (by decide +kernel) rfl
theorem x140_43 (h : obC r = 7) : Ze d 140 43 [l0, l1, l2, l3] (aI z :: aR r :: st) s = Ze d 140 46 [l0, l1, l2, l3] st (mu s r 4 z) := Ze_n (i := .putfield 72) (len := 3) (by decide +kernel) (if_pos h)
theorem x140_46 : Ze d 140 46 [l0, l1, l2, aI z] st s = Ze d 140 47 [l0, l1, l2, aI z] (aI z :: st) s := Ze_n (i := (.iload_n 3)) (len := 1) (by decide +kernel) rfl
theorem x140_47 : Ze d 140 47 [l0, l1, l2, l3] [aI z] s = rI z s := Ze_i1 (by decide +kernel) rfl
theorem en140 : Zc (d + 1) 140 [aR r, aI a1, aI a2] s = Ze d 140 0 [aR r, aI a1, aI a2, aU] [] s := rfl
theorem x137_0 : Ze d 137 0 [aR r, l1, l2, l3, l4, l5] st s = Ze d 137 1 [aR r, l1, l2, l3, l4, l5] (aR r :: st) s := Ze_n (i := (.aload_n 0)) (len := 1) (by decide +kernel) rfl
theorem x137_1 (h : obC r = 7) : Ze d 137 1 [l0, l1, l2, l3, l4, l5] (aR r :: st) s = Ze d 137 4 [l0, l1, l2, l3, l4, l5] (aR (fcn r 2) :: st) s := Ze_gf (len := 3) (idx := 23) (by decide +kernel) rfl h rfl
theorem x137_4 (h : obC r = 10) : Ze d 137 4 [l0, l1, l2, l3, l4, l5] (aR r :: st) s = Ze d 137 7 [l0, l1, l2, l3, l4, l5] (aI (s r 6) :: st) s := Ze_gf (len := 3) (idx := 151) (by decide +kernel) rfl h rfl
theorem x137_7 : Ze d 137 7 [l0, l1, l2, l3, l4, l5] (aI z :: st) s = Ze d 137 8 [l0, aI z, l2, l3, l4, l5] st s := Ze_n (i := (.istore_n 1)) (len := 1) (by decide +kernel) rfl
theorem x137_8 : Ze d 137 8 [aR r, l1, l2, l3, l4, l5] st s = Ze d 137 9 [aR r, l1, l2, l3, l4, l5] (aR r :: st) s := Ze_n (i := (.aload_n 0)) (len := 1) (by decide +kernel) rfl
theorem x137_9 (h : obC r = 7) (h6 : st.length ≤ 4) : Ze d 137 9 [l0, l1, l2, l3, l4, l5] (aR r :: st) s = zcI (Zc d 139 [aR r] s) d 137 12 [l0, l1, l2, l3, l4, l5] st := Ze_cvI (idx := 84) (len := 3) (as := []) (by decide +kernel) rfl (by decide +kernel) rfl h h6
theorem x137_12 : Ze d 137 12 [l0, l1, l2, l3, l4, l5] (aI z :: st) s = Ze d 137 13 [l0, l1, aI z, l3, l4, l5] st s := Ze_n (i := (.istore_n 2)) (len := 1) (by decide +kernel) rfl
theorem x137_13 : Ze d 137 13 [l0, l1, aI z, l3, l4, l5] st s = Ze d 137 14 [l0, l1, aI z, l3, l4, l5] (aI z :: st) s := Ze_n (i := (.iload_n 2)) (len := 1) (by decide +kernel) rfl
theorem x137_14 : Ze d 137 14 [l0, l1, l2, l3, l4, l5] st s = Ze d 137 15 [l0, l1, l2, l3, l4, l5] (aI (-1) :: st) s := Ze_n (i := (.iconst (-1))) (len := 1) (by decide +kernel) rfl
theorem x137_15 : Ze d 137 15 [l0, l1, l2, l3, l4, l5] (aI b :: aI a :: st) s = if a = b then Ze d 137 18 [l0, l1, l2, l3, l4, l5] st s else Ze d 137 20 [l0, l1, l2, l3, l4, l5] st s := Ze_b (i := (.if_icmp .ne 5)) (len := 3) (by decide +kernel) rfl
theorem x137_18 : Ze d 137 18 [l0, l1, l2, l3, l4, l5] st s = Ze d 137 19 [l0, l1, l2, l3, l4, l5] (aI (-1) :: st) s := Ze_n (i := (.iconst (-1))) (len := 1) (by decide +kernel) rfl
theorem x137_19 : Ze d 137 19 [l0, l1, l2, l3, l4, l5] [aI z] s = rI z s := Ze_i1 (by decide +kernel) rfl
theorem x137_20 : Ze d 137 20 [l0, l1, l2, l3, l4, l5] st s = Ze d 137 21 [l0, l1, l2, l3, l4, l5] (aI 0 :: st) s := Ze_n (i := (.iconst 0)) (len := 1) (by decide +kernel) rfl
theorem x137_21 : Ze d 137 21 [l0, l1, l2, l3, l4, l5] (aI z :: st) s = Ze d 137 22 [l0, l1, l2, aI z, l4, l5] st s := Ze_n (i := (.istore_n 3)) (len := 1) (by decide +kernel) rfl
theorem x137_22 : Ze d 137 22 [l0, l1, l2, aI z, l4, l5] st s = Ze d 137 23 [l0, l1, l2, aI z, l4, l5] (aI z :: st) s := Ze_n (i := (.iload_n 3)) (len := 1) (by decide +kernel) rfl
theorem x137_23 : Ze d 137 23 [l0, l1, l2, l3, l4, l5] st s = Ze d 137 25 [l0, l1, l2, l3, l4, l5] (aI 6 :: st) s := Ze_n (i := (.bipush 6)) (len := 2) (by decide +kernel) rfl
theorem x137_25 : Ze d 137 25 [l0, l1, l2, l3, l4, l5] (aI b :: aI a :: st) s = if a < b then Ze d 137 28 [l0, l1, l2, l3, l4, l5] st s else Ze d 137 143 [l0, l1, l2, l3, l4, l5] st s := Ze_b (i := (.if_icmp .ge 118)) (len := 3) (by decide +kernel) rfl
theorem x137_28 : Ze d 137 28 [aR r, l1, l2, l3, l4, l5] st s = Ze d 137 29 [aR r, l1, l2, l3, l4, l5] (aR r :: st) s := Ze_n (i := (.aload_n 0)) (len := 1) (by decide +kernel) rfl
theorem x137_29 (h : obC r = 7) (h6 : st.length ≤ 4) : Ze d 137 29 [l0, l1, l2, l3, l4, l5] (aR r :: st) s = zcI (Zc d 138 [aR r] s) d 137 32 [l0, l1, l2, l3, l4, l5] st := Ze_cvI (idx := 38) (len := 3) (as := []) (by decide +kernel) rfl (by decide +kernel) rfl h h6
theorem x137_32 : Ze d 137 32 [l0, l1, l2, l3, l4, l5] st s = Ze d 137 34 [l0, l1, l2, l3, l4, l5] (aI 46 :: st) s := Ze_n (i := (.bipush 46)) (len := 2) (by decide +kernel) rfl
theorem x137_34 : Ze d 137 34 [l0, l1, l2, l3, l4, l5] (aI b :: aI a :: st) s = if a = b then Ze d 137 46 [l0, l1, l2, l3, l4, l5] st s else Ze d 137 37 [l0, l1, l2, l3, l4, l5] st s := Ze_b (i := (.if_icmp .eq 12)) (len := 3) (by decide +kernel) rfl
theorem x137_37 : Ze d 137 37 [aR r, l1, l2, l3, l4, l5] st s = Ze d 137 38 [aR r, l1, l2, l3, l4, l5] (aR r :: st) s := Ze_n (i := (.aload_n 0)) (len := 1) (by decide +kernel) rfl
theorem x137_38 (h : obC r = 7) (h6 : st.length ≤ 4) : Ze d 137 38 [l0, l1, l2, l3, l4, l5] (aR r :: st) s = zcI (Zc d 138 [aR r] s) d 137 41 [l0, l1, l2, l3, l4, l5] st := Ze_cvI (idx := 38) (len := 3) (as := []) (by decide +kernel) rfl (by decide +kernel) rfl h h6
theorem x137_41 : Ze d 137 41 [l0, l1, l2, l3, l4, l5] st s = Ze d 137 43 [l0, l1, l2, l3, l4, l5] (aI 91 :: st) s := Ze_n (i := (.bipush 91)) (len := 2) (by decide +kernel) rfl
theorem x137_43 : Ze d 137 43 [l0, l1, l2, l3, l4, l5] (aI b :: aI a :: st) s = if a = b then Ze d 137 46 [l0, l1, l2, l3, l4, l5] st s else Ze d 137 143 [l0, l1, l2, l3, l4, l5] st s := Ze_b (i := (.if_icmp .ne 100)) (len := 3) (by decide +kernel) rfl
theorem x137_46 : Ze d 137 46 [aR r, l1, l2, l3, l4, l5] st s = Ze d 137 47 [aR r, l1, l2, l3, l4, l5] (aR r :: st) s := Ze_n (i := (.aload_n 0)) (len := 1) (by decide +kernel) rfl
theorem x137_47 (h : obC r = 7) (h6 : st.length ≤ 4) : Ze d 137 47 [l0, l1, l2, l3, l4, l5] (aR r :: st) s = zcI (Zc d 138 [aR r] s) d 137 50 [l0, l1, l2, l3, l4, l5] st := Ze_cvI (idx := 38) (len := 3) (as := []) (by decide +kernel) rfl (by decide +kernel) rfl h h6
theorem x137_50 : Ze d 137 50 [l0, l1, l2, l3, l4, l5] st s = Ze d 137 52 [l0, l1, l2, l3, l4, l5] (aI 91 :: st) s := Ze_n (i := (.bipush 91)) (len := 2) (by decide +kernel) rfl
theorem x137_52 : Ze d 137 52 [l0, l1, l2, l3, l4, l5] (aI b :: aI a :: st) s = if a = b then Ze d 137 55 [l0, l1, l2, l3, l4, l5] st s else Ze d 137 59 [l0, l1, l2, l3, l4, l5] st s := Ze_b (i := (.if_icmp .ne 7)) (len := 3) (by decide +kernel) rfl
theorem x137_55 : Ze d 137 55 [l0, l1, l2, l3, l4, l5] st s = Ze d 137 56 [l0, l1, l2, l3, l4, l5] (aI 1 :: st) s := Ze_n (i := (.iconst 1)) (len := 1) (by decide +kernel) rfl
theorem x137_56 : Ze d 137 56 [l0, l1, l2, l3, l4, l5] st s = Ze d 137 60 [l0, l1, l2, l3, l4, l5] st s := Ze_n (i := (.goto 4)) (len := 3) (by decide +kernel) rfl
theorem x137_59 : Ze d 137 59 [l0, l1, l2, l3, l4, l5] st s = Ze d 137 60 [l0, l1, l2, l3, l4, l5] (aI 0 :: st) s := Ze_n (i := (.iconst 0)) (len := 1) (by decide +kernel) rfl
theorem x137_60 : Ze d 137 60 [l0, l1, l2, l3, l4, l5] (aI z :: st) s = Ze d 137 62 [l0, l1, l2, l3, aI z, l5] st s := Ze_n (i := (.istore 4)) (len := 2) (by decide +kernel) rfl
theorem x137_62 : Ze d 137 62 [aR r, l1, l2, l3, l4, l5] st s = Ze d 137 63 [aR r, l1, l2, l3, l4, l5] (aR r :: st) s := Ze_n (i := (.aload_n 0)) (len := 1) (by decide +kernel) rfl
theorem x137_63 : Ze d 137 63 [l0, l1, l2, l3, l4, l5] (aR r :: st) s = Ze d 137 64 [l0, l1, l2, l3, l4, l5] (aR r :: aR r :: st) s := Ze_n (i := .dup) (len := 1) (by decide +kernel) rfl
theorem x137_63i : Ze d 137 63 [l0, l1, l2, l3, l4, l5] (aI a :: st) s = Ze d 137 64 [l0, l1, l2, l3, l4, l5] (aI a :: aI a :: st) s := Ze_n (i := .dup) (len := 1) (by decide +kernel) rfl
theorem x137_64 (h : obC r = 7) : Ze d 137 64 [l0, l1, l2, l3, l4, l5] (aR r :: st) s = Ze d 137 67 [l0, l1, l2, l3, l4, l5] (aI (s r 4) :: st) s := Ze_gf (len := 3) (idx := 72) (by decide +kernel) rfl h rfl
theorem x137_67 : Ze d 137 67 [l0, l1, l2, l3, l4, l5] st s = Ze d 137 68 [l0, l1, l2, l3, l4, l5] (aI 1 :: st) s := Ze_n (i := (.iconst 1)) (len := 1) (by decide +kernel) rfl
theorem x137_68 : Ze d 137 68 [l0, l1, l2, l3, l4, l5] (aI b :: aI a :: st) s = Ze d 137 69 [l0, l1, l2, l3, l4, l5] (aI (wrap (a + b)) :: st) s := Ze_n (i := .iadd) (len := 1) (by decide +kernel) rfl
theorem x137_69 (h : obC r = 7) : Ze d 137 69 [l0, l1, l2, l3, l4, l5] (aI z :: aR r :: st) s = Ze d 137 72 [l0, l1, l2, l3, l4, l5] st (mu s r 4 z) := Ze_n (i := .putfield 72) (len := 3) (by decide +kernel) (if_pos h)
theorem x137_72 : Ze d 137 72 [l0, l1, l2, l3, aI z, l5] st s = Ze d 137 74 [l0, l1, l2, l3, aI z, l5] (aI z :: st) s := Ze_n (i := (.iload 4)) (len := 2) (by decide +kernel) rfl
theorem x137_74 : Ze d 137 74 [l0, l1, l2, l3, l4, l5] (aI a :: st) s = if a = 0 then Ze d 137 87 [l0, l1, l2, l3, l4, l5] st s else Ze d 137 77 [l0, l1, l2, l3, l4, l5] st s := Ze_b (i := (.ifCond .eq 13)) (len := 3) (by decide +kernel) rfl
theorem x137_77 : Ze d 137 77 [aR r, l1, l2, l3, l4, l5] st s = Ze d 137 78 [aR r, l1, l2, l3, l4, l5] (aR r :: st) s := Ze_n (i := (.aload_n 0)) (len := 1) (by decide +kernel) rfl
theorem x137_78 : Ze d 137 78 [l0, l1, l2, l3, l4, l5] st s = Ze d 137 79 [l0, l1, l2, l3, l4, l5] (aI 0 :: st) s := Ze_n (i := (.iconst 0)) (len := 1) (by decide +kernel) rfl
theorem x137_79 : Ze d 137 79 [l0, l1, l2, l3, l4, l5] st s = Ze d 137 81 [l0, l1, l2, l3, l4, l5] (aI 65535 :: st) s := Ze_n (i := (.ldc 137)) (len := 2) (by decide +kernel) rfl
theorem x137_81 (h : obC r = 7) (h6 : st.length ≤ 4) : Ze d 137 81 [l0, l1, l2, l3, l4, l5] (aI a2 :: aI a1 :: aR r :: st) s = zcI (Zc d 140 [aR r, aI a1, aI a2] s) d 137 84 [l0, l1, l2, l3, l4, l5] st := Ze_cvI (idx := 117) (len := 3) (as := [aI a1, aI a2]) (by decide +kernel) rfl (by decide +kernel) rfl h h6
theorem x137_84 : Ze d 137 84 [l0, l1, l2, l3, l4, l5] st s = Ze d 137 91 [l0, l1, l2, l3, l4, l5] st s := Ze_n (i := (.goto 7)) (len := 3) (by decide +kernel) rfl
theorem x137_87 : Ze d 137 87 [aR r, l1, l2, l3, l4, l5] st s = Ze d 137 88 [aR r, l1, l2, l3, l4, l5] (aR r :: st) s := Ze_n (i := (.aload_n 0)) (len := 1) (by decide +kernel) rfl
theorem x137_88 (h : obC r = 7) (h6 : st.length ≤ 4) : Ze d 137 88 [l0, l1, l2, l3, l4, l5] (aR r :: st) s = zcI (Zc d 139 [aR r] s) d 137 91 [l0, l1, l2, l3, l4, l5] st := Ze_cvI (idx := 84) (len := 3) (as := []) (by decide +kernel) rfl (by decide +kernel) rfl h h6
theorem x137_91 : Ze d 137 91 [l0, l1, l2, l3, l4, l5] (aI z :: st) s = Ze d 137 93 [l0, l1, l2, l3, l4, aI z] st s := Ze_n (i := (.istore 5)) (len := 2) (by decide +kernel) rfl
theorem x137_93 : Ze d 137 93 [l0, l1, l2, l3, l4, aI z] st s = Ze d 137 95 [l0, l1, l2, l3, l4, aI z] (aI z :: st) s := Ze_n (i := (.iload 5)) (len := 2) (by decide +kernel) rfl
theorem x137_95 : Ze d 137 95 [l0, l1, l2, l3, l4, l5] st s = Ze d 137 96 [l0, l1, l2, l3, l4, l5] (aI (-1) :: st) s := Ze_n (i := (.iconst (-1))) (len := 1) (by decide +kernel) rfl
theorem x137_96 : Ze d 137 96 [l0, l1, l2, l3, l4, l5] (aI b :: aI a :: st) s = if a = b then Ze d 137 113 [l0, l1, l2, l3, l4, l5] st s else Ze d 137 99 [l0, l1, l2, l3, l4, l5] st s := Ze_b (i := (.if_icmp .eq 17)) (len := 3) (by decide +kernel) rfl
theorem x137_99 : Ze d 137 99 [l0, l1, l2, l3, aI z, l5] st s = Ze d 137 101 [l0, l1, l2, l3, aI z, l5] (aI z :: st) s := Ze_n (i := (.iload 4)) (len := 2) (by decide +kernel) rfl
theorem x137_101 : Ze d 137 101 [l0, l1, l2, l3, l4, l5] (aI a :: st) s = if a = 0 then Ze d 137 115 [l0, l1, l2, l3, l4, l5] st s else Ze d 137 104 [l0, l1, l2, l3, l4, l5] st s := Ze_b (i := (.ifCond .eq 14)) (len := 3) (by decide +kernel) rfl
theorem x137_104 : Ze d 137 104 [aR r, l1, l2, l3, l4, l5] st s = Ze d 137 105 [aR r, l1, l2, l3, l4, l5] (aR r :: st) s := Ze_n (i := (.aload_n 0)) (len := 1) (by decide +kernel) rfl
theorem x137_105 : Ze d 137 105 [l0, l1, l2, l3, l4, l5] st s = Ze d 137 107 [l0, l1, l2, l3, l4, l5] (aI 93 :: st) s := Ze_n (i := (.bipush 93)) (len := 2) (by decide +kernel) rfl
theorem x137_107 (h : obC r = 7) (h6 : st.length ≤ 4) : Ze d 137 107 [l0, l1, l2, l3, l4, l5] (aI a1 :: aR r :: st) s = zcI (Zc d 141 [aR r, aI a1] s) d 137 110 [l0, l1, l2, l3, l4, l5] st := Ze_cvI (idx := 87) (len := 3) (as := [aI a1]) (by decide +kernel) rfl (by decide +kernel) rfl h h6
theorem x137_110 : Ze d 137 110 [l0, l1, l2, l3, l4, l5] (aI a :: st) s = if a = 0 then Ze d 137 113 [l0, l1, l2, l3, l4, l5] st s else Ze d 137 115 [l0, l1, l2, l3, l4, l5] st s := Ze_b (i := (.ifCond .ne 5)) (len := 3) (by decide +kernel) rfl
theorem x137_113 : Ze d 137 113 [l0, l1, l2, l3, l4, l5] st s = Ze d 137 114 [l0, l1, l2, l3, l4, l5] (aI (-1) :: st) s := Ze_n (i := (.iconst (-1))) (len := 1) (by decide +kernel) rfl
theorem x137_114 : Ze d 137 114 [l0, l1, l2, l3, l4, l5] [aI z] s = rI z s := Ze_i1 (by decide +kernel) rfl
theorem x137_115 : Ze d 137 115 [aR r, l1, l2, l3, l4, l5] st s = Ze d 137 116 [aR r, l1, l2, l3, l4, l5] (aR r :: st) s := Ze_n (i := (.aload_n 0)) (len := 1) (by decide +kernel) rfl
theorem x137_116 (h : obC r = 7) : Ze d 137 116 [l0, l1, l2, l3, l4, l5] (aR r :: st) s = Ze d 137 119 [l0, l1, l2, l3, l4, l5] (aR (fcn r 2) :: st) s := Ze_gf (len := 3) (idx := 23) (by decide +kernel) rfl h rfl
theorem x137_119 : Ze d 137 119 [l0, l1, l2, l3, aI z, l5] st s = Ze d 137 121 [l0, l1, l2, l3, aI z, l5] (aI z :: st) s := Ze_n (i := (.iload 4)) (len := 2) (by decide +kernel) rfl
theorem x137_121 : Ze d 137 121 [l0, l1, l2, l3, l4, l5] (aI a :: st) s = if a = 0 then Ze d 137 129 [l0, l1, l2, l3, l4, l5] st s else Ze d 137 124 [l0, l1, l2, l3, l4, l5] st s := Ze_b (i := (.ifCond .eq 8)) (len := 3) (by decide +kernel) rfl
theorem x137_124 : Ze d 137 124 [l0, l1, l2, l3, l4, aI z] st s = Ze d 137 126 [l0, l1, l2, l3, l4, aI z] (aI z :: st) s := Ze_n (i := (.iload 5)) (len := 2) (by decide +kernel) rfl
theorem x137_126 : Ze d 137 126 [l0, l1, l2, l3, l4, l5] st s = Ze d 137 134 [l0, l1, l2, l3, l4, l5] st s := Ze_n (i := (.goto 8)) (len := 3) (by decide +kernel) rfl
theorem x137_129 : Ze d 137 129 [l0, l1, l2, l3, l4, aI z] st s = Ze d 137 131 [l0, l1, l2, l3, l4, aI z] (aI z :: st) s := Ze_n (i := (.iload 5)) (len := 2) (by decide +kernel) rfl
theorem x137_131 (h6 : st.length ≤ 4) : Ze d 137 131 [l0, l1, l2, l3, l4, l5] (aI a0 :: st) s = zcI (Zc d 156 [aI a0] s) d 137 134 [l0, l1, l2, l3, l4, l5] st := Ze_csI (idx := 154) (len := 3) (as := [aI a0]) (by decide +kernel) rfl rfl (by decide +kernel) rfl h6
theorem x137_134 (h : obC r = 10) (h6 : st.length ≤ 4) : Ze d 137 134 [l0, l1, l2, l3, l4, l5] (aI a1 :: aR r :: st) s = zcV (Zc d 155 [aR r, aI a1] s) d 137 137 [l0, l1, l2, l3, l4, l5] st := Ze_cvV (idx := 157) (len := 3) (as := [aI a1]) (by decide +kernel) rfl (by decide +kernel) rfl h h6
theorem x137_137 : Ze d 137 137 [l0, l1, l2, aI z, l4, l5] st s = Ze d 137 140 [l0, l1, l2, aI (wrap (z + 1)), l4, l5] st s := Ze_n (i := (.iinc 3 1)) (len := 3) (by decide +kernel) rfl
theorem x137_140 : Ze d 137 140 [l0, l1, l2, l3, l4, l5] st s = Ze d 137 22 [l0, l1, l2, l3, l4, l5] st s := Ze_n (i := (.goto (-118))) (len := 3) (by decide +kernel) rfl
theorem x137_143 : Ze d 137 143 [aR r, l1, l2, l3, l4, l5] st s = Ze d 137 144 [aR r, l1, l2, l3, l4, l5] (aR r :: st) s := Ze_n (i := (.aload_n 0)) (len := 1) (by decide +kernel) rfl
theorem x137_144 (h : obC r = 7) (h2 : 0 ≤ s r 3) : Ze d 137 144 [l0, l1, l2, l3, l4, l5] (aR r :: st) s = Ze d 137 147 [l0, l1, l2, l3, l4, l5] (aR (s r 3).toNat :: st) s := Ze_gf (len := 3) (idx := 57) (by decide +kernel) rfl h (fldV_dyn rfl h2)
theorem x137_147 : Ze d 137 147 [l0, l1, l2, l3, l4, l5] st s = Ze d 137 148 [l0, l1, l2, l3, l4, l5] (aI 4 :: st) s := Ze_n (i := (.iconst 4)) (len := 1) (by decide +kernel) rfl
theorem x137_148 : Ze d 137 148 [l0, aI z, l2, l3, l4, l5] st s = Ze d 137 149 [l0, aI z, l2, l3, l4, l5] (aI z :: st) s := Ze_n (i := (.iload_n 1)) (len := 1) (by decide +kernel) rfl
theorem x137_149 : Ze d 137 149 [aR r, l1, l2, l3, l4, l5] st s = Ze d 137 150 [aR r, l1, l2, l3, l4, l5] (aR r :: st) s := Ze_n (i := (.aload_n 0)) (len := 1) (by decide +kernel) rfl
theorem x137_150 (h : obC r = 7) : Ze d 137 150 [l0, l1, l2, l3, l4, l5] (aR r :: st) s = Ze d 137 153 [l0, l1, l2, l3, l4, l5] (aR (fcn r 2) :: st) s := Ze_gf (len := 3) (idx := 23) (by decide +kernel) rfl h rfl
theorem x137_153 (h : obC r = 10) : Ze d 137 153 [l0, l1, l2, l3, l4, l5] (aR r :: st) s = Ze d 137 156 [l0, l1, l2, l3, l4, l5] (aI (s r 6) :: st) s := Ze_gf (len := 3) (idx := 151) (by decide +kernel) rfl h rfl
theorem x137_156 : Ze d 137 156 [l0, aI z, l2, l3, l4, l5] st s = Ze d 137 157 [l0, aI z, l2, l3, l4, l5] (aI z :: st) s := Ze_n (i := (.iload_n 1)) (len := 1) (by decide +kernel) rfl
theorem x137_157 : Ze d 137 157 [l0, l1, l2, l3, l4, l5] (aI b :: aI a :: st) s = Ze d 137 158 [l0, l1, l2, l3, l4, l5] (aI (wrap (a - b)) :: st) s := Ze_n (i := .isub) (len := 1) (by decide +kernel) rfl
theorem x137_158 : Ze d 137 158 [l0, l1, aI z, l3, l4, l5] st s = Ze d 137 159 [l0, l1, aI z, l3, l4, l5] (aI z :: st) s := Ze_n (i := (.iload_n 2)) (len := 1) (by decide +kernel) rfl
theorem x137_159 (h : obC r = 6) (h6 : st.length ≤ 4) : Ze d 137 159 [l0, l1, l2, l3, l4, l5] (aI a4 :: aI a3 :: aI a2 :: aI a1 :: aR r :: st) s = zcI (Zc d 113 [aR r, aI a1, aI a2, aI a3, aI a4] s) d 137 162 [l0, l1, l2, l3, l4, l5] st := Ze_cvI (idx := 138) (len := 3) (as := [aI a1, aI a2, aI a3, aI a4]) (by decide +kernel) rfl (by decide +kernel) rfl h h6
theorem x137_162 : Ze d 137 162 [l0, l1, l2, l3, l4, l5] [aI z] s = rI z s := Ze_i1 (by decide +kernel) rfl
theorem en137 : Zc (d + 1) 137 [aR r] s = Ze d 137 0 [aR r, aU, aU, aU, aU, aU] [] s := rfl
theorem x124_0 : Ze d 124 0 [aR r, l1] st s = Ze d 124 1 [aR r, l1] (aR r :: st) s := Ze_n (i := (.aload_n 0)) (len := 1) (by decide +kernel) rfl
theorem x124_1 : Ze d 124 1 [l0, aR r] st s = Ze d 124 2 [l0, aR r] (aR r :: st) s := Ze_n (i := (.aload_n 1)) (len := 1) (by decide +kernel) rfl
theorem x124_2 (h : obC r = 7) (h2 : q < lyt.length) : Ze d 124 2 [l0, l1] (aR q :: aR r :: st) s = Ze d 124 5 [l0, l1] st (mu s r 3 (q : Int)) := Ze_n (i := .putfield 57) (len := 3) (by decide +kernel) (if_pos ⟨h, h2⟩)
theorem x124_5 : Ze d 124 5 [aR r, l1] st s = Ze d 124 6 [aR r, l1] (aR r :: st) s := Ze_n (i := (.aload_n 0)) (len := 1) (by decide +kernel) rfl
theorem x124_6 (h : obC r = 7) (h2 : 0 ≤ s r 3) : Ze d 124 6 [l0, l1] (aR r :: st) s = Ze d 124 9 [l0, l1] (aR (s r 3).toNat :: st) s := Ze_gf (len := 3) (idx := 57) (by decide +kernel) rfl h (fldV_dyn rfl h2)
theorem x124_9 (h : obC r = 6) (h6 : st.length ≤ 4) : Ze d 124 9 [l0, l1] (aR r :: st) s = zcV (Zc d 112 [aR r] s) d 124 12 [l0, l1] st := Ze_cvV (idx := 61) (len := 3) (as := []) (by decide +kernel) rfl (by decide +kernel) rfl h h6
theorem x124_12 : Ze d 124 12 [aR r, l1] st s = Ze d 124 13 [aR r, l1] (aR r :: st) s := Ze_n (i := (.aload_n 0)) (len := 1) (by decide +kernel) rfl
theorem x124_13 (h : obC r = 7) : Ze d 124 13 [l0, l1] (aR r :: st) s = Ze d 124 16 [l0, l1] (aR (fcn r 1) :: st) s := Ze_gf (len := 3) (idx := 19) (by decide +kernel) rfl h rfl
theorem x124_16 (h : obC r = 12) (h6 : st.length ≤ 4) : Ze d 124 16 [l0, l1] (aR r :: st) s = zcV (Zc d 161 [aR r] s) d 124 19 [l0, l1] st := Ze_cvV (idx := 66) (len := 3) (as := []) (by decide +kernel) rfl (by decide +kernel) rfl h h6
theorem x124_19 : Ze d 124 19 [aR r, l1] st s = Ze d 124 20 [aR r, l1] (aR r :: st) s := Ze_n (i := (.aload_n 0)) (len := 1) (by decide +kernel) rfl
theorem x124_20 (h : obC r = 7) : Ze d 124 20 [l0, l1] (aR r :: st) s = Ze d 124 23 [l0, l1] (aR (fcn r 2) :: st) s := Ze_gf (len := 3) (idx := 23) (by decide +kernel) rfl h rfl
theorem x124_23 (h : obC r = 10) (h6 : st.length ≤ 4) : Ze d 124 23 [l0, l1] (aR r :: st) s = zcV (Zc d 153 [aR r] s) d 124 26 [l0, l1] st := Ze_cvV (idx := 69) (len := 3) (as := []) (by decide +kernel) rfl (by decide +kernel) rfl h h6
theorem x124_26 : Ze d 124 26 [aR r, l1] st s = Ze d 124 27 [aR r, l1] (aR r :: st) s := Ze_n (i := (.aload_n 0)) (len := 1) (by decide +kernel) rfl
theorem x124_27 : Ze d 124 27 [l0, l1] st s = Ze d 124 28 [l0, l1] (aI 0 :: st) s := Ze_n (i := (.iconst 0)) (len := 1) (by decide +kernel) rfl
theorem x124_28 (h : obC r = 7) : Ze d 124 28 [l0, l1] (aI z :: aR r :: st) s = Ze d 124 31 [l0, l1] st (mu s r 4 z) := Ze_n (i := .putfield 72) (len := 3) (by decide +kernel) (if_pos h)
theorem x124_31 : Ze d 124 31 [aR r, l1] st s = Ze d 124 32 [aR r, l1] (aR r :: st) s := Ze_n (i := (.aload_n 0)) (len := 1) (by decide +kernel) rfl
theorem x124_32 : Ze d 124 32 [l0, l1] st s = Ze d 124 33 [l0, l1] (aI (-1) :: st) s := Ze_n (i := (.iconst (-1))) (len := 1) (by decide +kernel) rfl
theorem x124_33 (h : obC r = 7) : Ze d 124 33 [l0, l1] (aI z :: aR r :: st) s = Ze d 124 36 [l0, l1] st (mu s r 5 z) := Ze_n (i := .putfield 31) (len := 3) (by decide +kernel) (if_pos h)
theorem x124_36 : Ze d 124 36 [aR r, l1] st s = Ze d 124 37 [aR r, l1] (aR r :: st) s := Ze_n (i := (.aload_n 0)) (len := 1) (by decide +kernel) rfl
theorem x124_37 : Ze d 124 37 [l0, l1] st s = Ze d 124 38 [l0, l1] (aI 0 :: st) s := Ze_n (i := (.iconst 0)) (len := 1) (by decide +kernel) rfl
theorem x124_38 (h : obC r = 7) : Ze d 124 38 [l0, l1] (aI z :: aR r :: st) s = Ze d 124 41 [l0, l1] st (mu s r 6 z) := Ze_n (i := .putfield 35) (len := 3) (by decide +kernel) (if_pos h)
theorem x124_41 : Ze d 124 41 [l0, l1] [] s = rV s := Ze_v (by decide +kernel) rfl
theorem en124 : Zc (d + 1) 124 [aR r, aR r1] s = Ze d 124 0 [aR r, aR r1] [] s := rfl
