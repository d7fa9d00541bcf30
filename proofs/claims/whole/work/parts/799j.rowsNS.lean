variable {d r q : Nat} {l0 l1 l2 l3 l4 l5 l6 l7 l8 l9 l10 l11 l12 l13 l14 l15 : AV} {st : List AV} {s : Mem} {a b z i n dp sp a0 a1 a2 a3 a4 a5 a6 : Int} {r0 r1 r2 r3 r4 : Nat}
theorem x153_0 : Ze d 153 0 [aR r] st s = Ze d 153 1 [aR r] (aR r :: st) s := Ze_n (i := (.aload_n 0)) (len := 1) (by decide +kernel) rfl
theorem x153_1 : Ze d 153 1 [l0] st s = Ze d 153 2 [l0] (aI 0 :: st) s := Ze_n (i := (.iconst 0)) (len := 1) (by decide +kernel) rfl
theorem x153_2 (h : obC r = 10) : Ze d 153 2 [l0] (aI z :: aR r :: st) s = Ze d 153 5 [l0] st (mu s r 4 z) := Ze_n (i := .putfield 27) (len := 3) (by decide +kernel) (if_pos h)
theorem x153_5 : Ze d 153 5 [aR r] st s = Ze d 153 6 [aR r] (aR r :: st) s := Ze_n (i := (.aload_n 0)) (len := 1) (by decide +kernel) rfl
theorem x153_6 : Ze d 153 6 [l0] st s = Ze d 153 7 [l0] (aI 0 :: st) s := Ze_n (i := (.iconst 0)) (len := 1) (by decide +kernel) rfl
theorem x153_7 (h : obC r = 10) : Ze d 153 7 [l0] (aI z :: aR r :: st) s = Ze d 153 10 [l0] st (mu s r 6 z) := Ze_n (i := .putfield 31) (len := 3) (by decide +kernel) (if_pos h)
theorem x153_10 : Ze d 153 10 [l0] [] s = rV s := Ze_v (by decide +kernel) rfl
theorem en153 : Zc (d + 1) 153 [aR r] s = Ze d 153 0 [aR r] [] s := rfl
theorem x155_0 : Ze d 155 0 [aR r, l1] st s = Ze d 155 1 [aR r, l1] (aR r :: st) s := Ze_n (i := (.aload_n 0)) (len := 1) (by decide +kernel) rfl
theorem x155_1 (h : obC r = 10) : Ze d 155 1 [l0, l1] (aR r :: st) s = Ze d 155 4 [l0, l1] (aR (fcn r 5) :: st) s := Ze_gf (len := 3) (idx := 24) (by decide +kernel) rfl h rfl
theorem x155_4 : Ze d 155 4 [aR r, l1] st s = Ze d 155 5 [aR r, l1] (aR r :: st) s := Ze_n (i := (.aload_n 0)) (len := 1) (by decide +kernel) rfl
theorem x155_5 (h : obC r = 10) : Ze d 155 5 [l0, l1] (aR r :: st) s = Ze d 155 8 [l0, l1] (aI (s r 6) :: st) s := Ze_gf (len := 3) (idx := 31) (by decide +kernel) rfl h rfl
theorem x155_8 : Ze d 155 8 [l0, aI z] st s = Ze d 155 9 [l0, aI z] (aI z :: st) s := Ze_n (i := (.iload_n 1)) (len := 1) (by decide +kernel) rfl
theorem x155_9 (h0 : 0 ≤ i) (h1 : i < aN1 r) : Ze d 155 9 [l0, l1] (aI z :: aI i :: aR r :: st) s = Ze d 155 10 [l0, l1] st (mu s r i.toNat z) := Ze_n (i := .iastore) (len := 1) (by decide +kernel) (if_pos ⟨h0, h1⟩)
theorem x155_10 : Ze d 155 10 [aR r, l1] st s = Ze d 155 11 [aR r, l1] (aR r :: st) s := Ze_n (i := (.aload_n 0)) (len := 1) (by decide +kernel) rfl
theorem x155_11 : Ze d 155 11 [l0, l1] (aR r :: st) s = Ze d 155 12 [l0, l1] (aR r :: aR r :: st) s := Ze_n (i := .dup) (len := 1) (by decide +kernel) rfl
theorem x155_11i : Ze d 155 11 [l0, l1] (aI a :: st) s = Ze d 155 12 [l0, l1] (aI a :: aI a :: st) s := Ze_n (i := .dup) (len := 1) (by decide +kernel) rfl
theorem x155_12 (h : obC r = 10) : Ze d 155 12 [l0, l1] (aR r :: st) s = Ze d 155 15 [l0, l1] (aI (s r 6) :: st) s := Ze_gf (len := 3) (idx := 31) (by decide +kernel) rfl h rfl
theorem x155_15 : Ze d 155 15 [l0, l1] st s = Ze d 155 16 [l0, l1] (aI 1 :: st) s := Ze_n (i := (.iconst 1)) (len := 1) (by decide +kernel) rfl
theorem x155_16 : Ze d 155 16 [l0, l1] (aI b :: aI a :: st) s = Ze d 155 17 [l0, l1] (aI (wrap (a + b)) :: st) s := Ze_n (i := .iadd) (len := 1) (by decide +kernel) rfl
theorem x155_17 (h : obC r = 10) : Ze d 155 17 [l0, l1] (aI z :: aR r :: st) s = Ze d 155 20 [l0, l1] st (mu s r 6 z) := Ze_n (i := .putfield 31) (len := 3) (by decide +kernel) (if_pos h)
theorem x155_20 : Ze d 155 20 [l0, l1] [] s = rV s := Ze_v (by decide +kernel) rfl
theorem en155 : Zc (d + 1) 155 [aR r, aI a1] s = Ze d 155 0 [aR r, aI a1] [] s := rfl
theorem x156_0 : Ze d 156 0 [l0] st s = Ze d 156 1 [l0] (aI (-1) :: st) s := Ze_n (i := (.iconst (-1))) (len := 1) (by decide +kernel) rfl
theorem x156_1 : Ze d 156 1 [aI z] st s = Ze d 156 2 [aI z] (aI z :: st) s := Ze_n (i := (.iload_n 0)) (len := 1) (by decide +kernel) rfl
theorem x156_2 : Ze d 156 2 [l0] (aI b :: aI a :: st) s = Ze d 156 3 [l0] (aI (wrap (a - b)) :: st) s := Ze_n (i := .isub) (len := 1) (by decide +kernel) rfl
theorem x156_3 : Ze d 156 3 [l0] [aI z] s = rI z s := Ze_i1 (by decide +kernel) rfl
theorem en156 : Zc (d + 1) 156 [aI a0] s = Ze d 156 0 [aI a0] [] s := rfl
theorem x112_0 : Ze d 112 0 [aR r] st s = Ze d 112 1 [aR r] (aR r :: st) s := Ze_n (i := (.aload_n 0)) (len := 1) (by decide +kernel) rfl
theorem x112_1 : Ze d 112 1 [l0] st s = Ze d 112 3 [l0] (aI 25 :: st) s := Ze_n (i := (.bipush 25)) (len := 2) (by decide +kernel) rfl
theorem x112_3 (h : obC r = 6) : Ze d 112 3 [l0] (aI z :: aR r :: st) s = Ze d 112 6 [l0] st (mu s r 7 z) := Ze_n (i := .putfield 33) (len := 3) (by decide +kernel) (if_pos h)
theorem x112_6 : Ze d 112 6 [l0] [] s = rV s := Ze_v (by decide +kernel) rfl
theorem en112 : Zc (d + 1) 112 [aR r] s = Ze d 112 0 [aR r] [] s := rfl
theorem x115_0 : Ze d 115 0 [aR r, l1, l2, l3, l4, l5] st s = Ze d 115 1 [aR r, l1, l2, l3, l4, l5] (aR r :: st) s := Ze_n (i := (.aload_n 0)) (len := 1) (by decide +kernel) rfl
theorem x115_1 (h : obC r = 6) : Ze d 115 1 [l0, l1, l2, l3, l4, l5] (aR r :: st) s = Ze d 115 4 [l0, l1, l2, l3, l4, l5] (aI (s r 7) :: st) s := Ze_gf (len := 3) (idx := 33) (by decide +kernel) rfl h rfl
theorem x115_4 : Ze d 115 4 [l0, l1, l2, l3, l4, l5] (aI z :: st) s = Ze d 115 6 [l0, l1, l2, l3, l4, aI z] st s := Ze_n (i := (.istore 5)) (len := 2) (by decide +kernel) rfl
theorem x115_6 : Ze d 115 6 [aR r, l1, l2, l3, l4, l5] st s = Ze d 115 7 [aR r, l1, l2, l3, l4, l5] (aR r :: st) s := Ze_n (i := (.aload_n 0)) (len := 1) (by decide +kernel) rfl
theorem x115_7 (h : obC r = 6) : Ze d 115 7 [l0, l1, l2, l3, l4, l5] (aR r :: st) s = Ze d 115 10 [l0, l1, l2, l3, l4, l5] (aR (fcn r 0) :: st) s := Ze_gf (len := 3) (idx := 9) (by decide +kernel) rfl h rfl
theorem x115_10 : Ze d 115 10 [l0, l1, l2, l3, l4, aI z] st s = Ze d 115 12 [l0, l1, l2, l3, l4, aI z] (aI z :: st) s := Ze_n (i := (.iload 5)) (len := 2) (by decide +kernel) rfl
theorem x115_12 : Ze d 115 12 [l0, aI z, l2, l3, l4, l5] st s = Ze d 115 13 [l0, aI z, l2, l3, l4, l5] (aI z :: st) s := Ze_n (i := (.iload_n 1)) (len := 1) (by decide +kernel) rfl
theorem x115_13 (h0 : 0 ≤ i) (h1 : i < aN1 r) : Ze d 115 13 [l0, l1, l2, l3, l4, l5] (aI z :: aI i :: aR r :: st) s = Ze d 115 14 [l0, l1, l2, l3, l4, l5] st (mu s r i.toNat z) := Ze_n (i := .iastore) (len := 1) (by decide +kernel) (if_pos ⟨h0, h1⟩)
theorem x115_14 : Ze d 115 14 [aR r, l1, l2, l3, l4, l5] st s = Ze d 115 15 [aR r, l1, l2, l3, l4, l5] (aR r :: st) s := Ze_n (i := (.aload_n 0)) (len := 1) (by decide +kernel) rfl
theorem x115_15 (h : obC r = 6) : Ze d 115 15 [l0, l1, l2, l3, l4, l5] (aR r :: st) s = Ze d 115 18 [l0, l1, l2, l3, l4, l5] (aR (fcn r 1) :: st) s := Ze_gf (len := 3) (idx := 15) (by decide +kernel) rfl h rfl
theorem x115_18 : Ze d 115 18 [l0, l1, l2, l3, l4, aI z] st s = Ze d 115 20 [l0, l1, l2, l3, l4, aI z] (aI z :: st) s := Ze_n (i := (.iload 5)) (len := 2) (by decide +kernel) rfl
theorem x115_20 : Ze d 115 20 [l0, l1, aI z, l3, l4, l5] st s = Ze d 115 21 [l0, l1, aI z, l3, l4, l5] (aI z :: st) s := Ze_n (i := (.iload_n 2)) (len := 1) (by decide +kernel) rfl
theorem x115_21 (h0 : 0 ≤ i) (h1 : i < aN1 r) : Ze d 115 21 [l0, l1, l2, l3, l4, l5] (aI z :: aI i :: aR r :: st) s = Ze d 115 22 [l0, l1, l2, l3, l4, l5] st (mu s r i.toNat z) := Ze_n (i := .iastore) (len := 1) (by decide +kernel) (if_pos ⟨h0, h1⟩)
theorem x115_22 : Ze d 115 22 [aR r, l1, l2, l3, l4, l5] st s = Ze d 115 23 [aR r, l1, l2, l3, l4, l5] (aR r :: st) s := Ze_n (i := (.aload_n 0)) (len := 1) (by decide +kernel) rfl
theorem x115_23 (h : obC r = 6) : Ze d 115 23 [l0, l1, l2, l3, l4, l5] (aR r :: st) s = Ze d 115 26 [l0, l1, l2, l3, l4, l5] (aR (fcn r 2) :: st) s := Ze_gf (len := 3) (idx := 18) (by decide +kernel) rfl h rfl
theorem x115_26 : Ze d 115 26 [l0, l1, l2, l3, l4, aI z] st s = Ze d 115 28 [l0, l1, l2, l3, l4, aI z] (aI z :: st) s := Ze_n (i := (.iload 5)) (len := 2) (by decide +kernel) rfl
theorem x115_28 : Ze d 115 28 [l0, l1, l2, aI z, l4, l5] st s = Ze d 115 29 [l0, l1, l2, aI z, l4, l5] (aI z :: st) s := Ze_n (i := (.iload_n 3)) (len := 1) (by decide +kernel) rfl
theorem x115_29 (h0 : 0 ≤ i) (h1 : i < aN1 r) : Ze d 115 29 [l0, l1, l2, l3, l4, l5] (aI z :: aI i :: aR r :: st) s = Ze d 115 30 [l0, l1, l2, l3, l4, l5] st (mu s r i.toNat z) := Ze_n (i := .iastore) (len := 1) (by decide +kernel) (if_pos ⟨h0, h1⟩)
theorem x115_30 : Ze d 115 30 [aR r, l1, l2, l3, l4, l5] st s = Ze d 115 31 [aR r, l1, l2, l3, l4, l5] (aR r :: st) s := Ze_n (i := (.aload_n 0)) (len := 1) (by decide +kernel) rfl
theorem x115_31 (h : obC r = 6) : Ze d 115 31 [l0, l1, l2, l3, l4, l5] (aR r :: st) s = Ze d 115 34 [l0, l1, l2, l3, l4, l5] (aR (fcn r 3) :: st) s := Ze_gf (len := 3) (idx := 21) (by decide +kernel) rfl h rfl
theorem x115_34 : Ze d 115 34 [l0, l1, l2, l3, l4, aI z] st s = Ze d 115 36 [l0, l1, l2, l3, l4, aI z] (aI z :: st) s := Ze_n (i := (.iload 5)) (len := 2) (by decide +kernel) rfl
theorem x115_36 : Ze d 115 36 [l0, l1, l2, l3, aI z, l5] st s = Ze d 115 38 [l0, l1, l2, l3, aI z, l5] (aI z :: st) s := Ze_n (i := (.iload 4)) (len := 2) (by decide +kernel) rfl
theorem x115_38 (h0 : 0 ≤ i) (h1 : i < aN1 r) : Ze d 115 38 [l0, l1, l2, l3, l4, l5] (aI z :: aI i :: aR r :: st) s = Ze d 115 39 [l0, l1, l2, l3, l4, l5] st (mu s r i.toNat z) := Ze_n (i := .iastore) (len := 1) (by decide +kernel) (if_pos ⟨h0, h1⟩)
theorem x115_39 : Ze d 115 39 [aR r, l1, l2, l3, l4, l5] st s = Ze d 115 40 [aR r, l1, l2, l3, l4, l5] (aR r :: st) s := Ze_n (i := (.aload_n 0)) (len := 1) (by decide +kernel) rfl
theorem x115_40 : Ze d 115 40 [l0, l1, l2, l3, l4, l5] (aR r :: st) s = Ze d 115 41 [l0, l1, l2, l3, l4, l5] (aR r :: aR r :: st) s := Ze_n (i := .dup) (len := 1) (by decide +kernel) rfl
theorem x115_40i : Ze d 115 40 [l0, l1, l2, l3, l4, l5] (aI a :: st) s = Ze d 115 41 [l0, l1, l2, l3, l4, l5] (aI a :: aI a :: st) s := Ze_n (i := .dup) (len := 1) (by decide +kernel) rfl
theorem x115_41 (h : obC r = 6) : Ze d 115 41 [l0, l1, l2, l3, l4, l5] (aR r :: st) s = Ze d 115 44 [l0, l1, l2, l3, l4, l5] (aI (s r 7) :: st) s := Ze_gf (len := 3) (idx := 33) (by decide +kernel) rfl h rfl
theorem x115_44 : Ze d 115 44 [l0, l1, l2, l3, l4, l5] st s = Ze d 115 45 [l0, l1, l2, l3, l4, l5] (aI 1 :: st) s := Ze_n (i := (.iconst 1)) (len := 1) (by decide +kernel) rfl
theorem x115_45 : Ze d 115 45 [l0, l1, l2, l3, l4, l5] (aI b :: aI a :: st) s = Ze d 115 46 [l0, l1, l2, l3, l4, l5] (aI (wrap (a + b)) :: st) s := Ze_n (i := .iadd) (len := 1) (by decide +kernel) rfl
theorem x115_46 (h : obC r = 6) : Ze d 115 46 [l0, l1, l2, l3, l4, l5] (aI z :: aR r :: st) s = Ze d 115 49 [l0, l1, l2, l3, l4, l5] st (mu s r 7 z) := Ze_n (i := .putfield 33) (len := 3) (by decide +kernel) (if_pos h)
theorem x115_49 : Ze d 115 49 [l0, l1, l2, l3, l4, aI z] st s = Ze d 115 51 [l0, l1, l2, l3, l4, aI z] (aI z :: st) s := Ze_n (i := (.iload 5)) (len := 2) (by decide +kernel) rfl
theorem x115_51 : Ze d 115 51 [l0, l1, l2, l3, l4, l5] [aI z] s = rI z s := Ze_i1 (by decide +kernel) rfl
theorem en115 : Zc (d + 1) 115 [aR r, aI a1, aI a2, aI a3, aI a4] s = Ze d 115 0 [aR r, aI a1, aI a2, aI a3, aI a4, aU] [] s := rfl
theorem x114_0 : Ze d 114 0 [aR r, l1, l2, l3, l4, l5] st s = Ze d 114 1 [aR r, l1, l2, l3, l4, l5] (aR r :: st) s := Ze_n (i := (.aload_n 0)) (len := 1) (by decide +kernel) rfl
theorem x114_1 : Ze d 114 1 [l0, aI z, l2, l3, l4, l5] st s = Ze d 114 2 [l0, aI z, l2, l3, l4, l5] (aI z :: st) s := Ze_n (i := (.iload_n 1)) (len := 1) (by decide +kernel) rfl
theorem x114_2 : Ze d 114 2 [l0, l1, aI z, l3, l4, l5] st s = Ze d 114 3 [l0, l1, aI z, l3, l4, l5] (aI z :: st) s := Ze_n (i := (.iload_n 2)) (len := 1) (by decide +kernel) rfl
theorem x114_3 : Ze d 114 3 [l0, l1, l2, aI z, l4, l5] st s = Ze d 114 4 [l0, l1, l2, aI z, l4, l5] (aI z :: st) s := Ze_n (i := (.iload_n 3)) (len := 1) (by decide +kernel) rfl
theorem x114_4 : Ze d 114 4 [l0, l1, l2, l3, aI z, l5] st s = Ze d 114 6 [l0, l1, l2, l3, aI z, l5] (aI z :: st) s := Ze_n (i := (.iload 4)) (len := 2) (by decide +kernel) rfl
theorem x114_6 (h : obC r = 6) (h6 : st.length ≤ 4) : Ze d 114 6 [l0, l1, l2, l3, l4, l5] (aI a4 :: aI a3 :: aI a2 :: aI a1 :: aR r :: st) s = zcI (Zc d 115 [aR r, aI a1, aI a2, aI a3, aI a4] s) d 114 9 [l0, l1, l2, l3, l4, l5] st := Ze_cvI (idx := 37) (len := 3) (as := [aI a1, aI a2, aI a3, aI a4]) (by decide +kernel) rfl (by decide +kernel) rfl h h6
theorem x114_9 : Ze d 114 9 [l0, l1, l2, l3, l4, l5] (aI z :: st) s = Ze d 114 11 [l0, l1, l2, l3, l4, aI z] st s := Ze_n (i := (.istore 5)) (len := 2) (by decide +kernel) rfl
theorem x114_11 : Ze d 114 11 [aR r, l1, l2, l3, l4, l5] st s = Ze d 114 12 [aR r, l1, l2, l3, l4, l5] (aR r :: st) s := Ze_n (i := (.aload_n 0)) (len := 1) (by decide +kernel) rfl
theorem x114_12 (h : obC r = 6) : Ze d 114 12 [l0, l1, l2, l3, l4, l5] (aR r :: st) s = Ze d 114 15 [l0, l1, l2, l3, l4, l5] (aR (fcn r 4) :: st) s := Ze_gf (len := 3) (idx := 24) (by decide +kernel) rfl h rfl
theorem x114_15 : Ze d 114 15 [l0, l1, l2, l3, l4, aI z] st s = Ze d 114 17 [l0, l1, l2, l3, l4, aI z] (aI z :: st) s := Ze_n (i := (.iload 5)) (len := 2) (by decide +kernel) rfl
theorem x114_17 : Ze d 114 17 [aR r, l1, l2, l3, l4, l5] st s = Ze d 114 18 [aR r, l1, l2, l3, l4, l5] (aR r :: st) s := Ze_n (i := (.aload_n 0)) (len := 1) (by decide +kernel) rfl
theorem x114_18 (h : obC r = 6) : Ze d 114 18 [l0, l1, l2, l3, l4, l5] (aR r :: st) s = Ze d 114 21 [l0, l1, l2, l3, l4, l5] (aR (fcn r 4) :: st) s := Ze_gf (len := 3) (idx := 24) (by decide +kernel) rfl h rfl
theorem x114_21 : Ze d 114 21 [l0, l1, aI z, l3, l4, l5] st s = Ze d 114 22 [l0, l1, aI z, l3, l4, l5] (aI z :: st) s := Ze_n (i := (.iload_n 2)) (len := 1) (by decide +kernel) rfl
theorem x114_22 (h0 : 0 ≤ i) (h1 : i < aN1 r) : Ze d 114 22 [l0, l1, l2, l3, l4, l5] (aI i :: aR r :: st) s = Ze d 114 23 [l0, l1, l2, l3, l4, l5] (aI (s r i.toNat) :: st) s := Ze_n (i := .iaload) (len := 1) (by decide +kernel) (if_pos ⟨h0, h1⟩)
theorem x114_23 (h0 : 0 ≤ i) (h1 : i < aN1 r) : Ze d 114 23 [l0, l1, l2, l3, l4, l5] (aI z :: aI i :: aR r :: st) s = Ze d 114 24 [l0, l1, l2, l3, l4, l5] st (mu s r i.toNat z) := Ze_n (i := .iastore) (len := 1) (by decide +kernel) (if_pos ⟨h0, h1⟩)
theorem x114_24 : Ze d 114 24 [l0, l1, l2, l3, l4, aI z] st s = Ze d 114 26 [l0, l1, l2, l3, l4, aI z] (aI z :: st) s := Ze_n (i := (.iload 5)) (len := 2) (by decide +kernel) rfl
theorem x114_26 : Ze d 114 26 [l0, l1, l2, l3, l4, l5] [aI z] s = rI z s := Ze_i1 (by decide +kernel) rfl
theorem en114 : Zc (d + 1) 114 [aR r, aI a1, aI a2, aI a3, aI a4] s = Ze d 114 0 [aR r, aI a1, aI a2, aI a3, aI a4, aU] [] s := rfl
theorem x113_0 : Ze d 113 0 [aR r, l1, l2, l3, l4, l5] st s = Ze d 113 1 [aR r, l1, l2, l3, l4, l5] (aR r :: st) s := Ze_n (i := (.aload_n 0)) (len := 1) (by decide +kernel) rfl
theorem x113_1 : Ze d 113 1 [l0, aI z, l2, l3, l4, l5] st s = Ze d 113 2 [l0, aI z, l2, l3, l4, l5] (aI z :: st) s := Ze_n (i := (.iload_n 1)) (len := 1) (by decide +kernel) rfl
theorem x113_2 : Ze d 113 2 [l0, l1, aI z, l3, l4, l5] st s = Ze d 113 3 [l0, l1, aI z, l3, l4, l5] (aI z :: st) s := Ze_n (i := (.iload_n 2)) (len := 1) (by decide +kernel) rfl
theorem x113_3 : Ze d 113 3 [l0, l1, l2, aI z, l4, l5] st s = Ze d 113 4 [l0, l1, l2, aI z, l4, l5] (aI z :: st) s := Ze_n (i := (.iload_n 3)) (len := 1) (by decide +kernel) rfl
theorem x113_4 : Ze d 113 4 [l0, l1, l2, l3, aI z, l5] st s = Ze d 113 6 [l0, l1, l2, l3, aI z, l5] (aI z :: st) s := Ze_n (i := (.iload 4)) (len := 2) (by decide +kernel) rfl
theorem x113_6 (h : obC r = 6) (h6 : st.length ≤ 4) : Ze d 113 6 [l0, l1, l2, l3, l4, l5] (aI a4 :: aI a3 :: aI a2 :: aI a1 :: aR r :: st) s = zcI (Zc d 115 [aR r, aI a1, aI a2, aI a3, aI a4] s) d 113 9 [l0, l1, l2, l3, l4, l5] st := Ze_cvI (idx := 37) (len := 3) (as := [aI a1, aI a2, aI a3, aI a4]) (by decide +kernel) rfl (by decide +kernel) rfl h h6
theorem x113_9 : Ze d 113 9 [l0, l1, l2, l3, l4, l5] (aI z :: st) s = Ze d 113 11 [l0, l1, l2, l3, l4, aI z] st s := Ze_n (i := (.istore 5)) (len := 2) (by decide +kernel) rfl
theorem x113_11 : Ze d 113 11 [aR r, l1, l2, l3, l4, l5] st s = Ze d 113 12 [aR r, l1, l2, l3, l4, l5] (aR r :: st) s := Ze_n (i := (.aload_n 0)) (len := 1) (by decide +kernel) rfl
theorem x113_12 (h : obC r = 6) : Ze d 113 12 [l0, l1, l2, l3, l4, l5] (aR r :: st) s = Ze d 113 15 [l0, l1, l2, l3, l4, l5] (aR (fcn r 4) :: st) s := Ze_gf (len := 3) (idx := 24) (by decide +kernel) rfl h rfl
theorem x113_15 : Ze d 113 15 [l0, l1, l2, l3, l4, aI z] st s = Ze d 113 17 [l0, l1, l2, l3, l4, aI z] (aI z :: st) s := Ze_n (i := (.iload 5)) (len := 2) (by decide +kernel) rfl
theorem x113_17 : Ze d 113 17 [l0, l1, l2, l3, l4, aI z] st s = Ze d 113 19 [l0, l1, l2, l3, l4, aI z] (aI z :: st) s := Ze_n (i := (.iload 5)) (len := 2) (by decide +kernel) rfl
theorem x113_19 (h0 : 0 ≤ i) (h1 : i < aN1 r) : Ze d 113 19 [l0, l1, l2, l3, l4, l5] (aI z :: aI i :: aR r :: st) s = Ze d 113 20 [l0, l1, l2, l3, l4, l5] st (mu s r i.toNat z) := Ze_n (i := .iastore) (len := 1) (by decide +kernel) (if_pos ⟨h0, h1⟩)
theorem x113_20 : Ze d 113 20 [l0, l1, l2, l3, l4, aI z] st s = Ze d 113 22 [l0, l1, l2, l3, l4, aI z] (aI z :: st) s := Ze_n (i := (.iload 5)) (len := 2) (by decide +kernel) rfl
theorem x113_22 : Ze d 113 22 [l0, l1, l2, l3, l4, l5] [aI z] s = rI z s := Ze_i1 (by decide +kernel) rfl
theorem en113 : Zc (d + 1) 113 [aR r, aI a1, aI a2, aI a3, aI a4] s = Ze d 113 0 [aR r, aI a1, aI a2, aI a3, aI a4, aU] [] s := rfl
theorem x116_0 : Ze d 116 0 [aI z] st s = Ze d 116 1 [aI z] (aI z :: st) s := Ze_n (i := (.iload_n 0)) (len := 1) (by decide +kernel) rfl
theorem x116_1 : Ze d 116 1 [l0] (aI a :: st) s = if a = 33 then Ze d 116 100 [l0] st s else if a = 35 then Ze d 116 102 [l0] st s else if a = 38 then Ze d 116 102 [l0] st s else if a = 43 then Ze d 116 102 [l0] st s else if a = 45 then Ze d 116 102 [l0] st s else if a = 60 then Ze d 116 102 [l0] st s else if a = 61 then Ze d 116 102 [l0] st s else if a = 77 then Ze d 116 104 [l0] st s else if a = 84 then Ze d 116 100 [l0] st s else if a = 94 then Ze d 116 102 [l0] st s else if a = 124 then Ze d 116 102 [l0] st s else Ze d 116 106 [l0] st s :=
  Ze_lk (dflt := 105) (ps := #[(33, 99), (35, 101), (38, 101), (43, 101), (45, 101), (60, 101), (61, 101), (77, 103), (84, 99), (94, 101), (124, 101)]) (len := 99) (ks := [(33, 100), (35, 102), (38, 102), (43, 102), (45, 102), (60, 102), (61, 102), (77, 104), (84, 100), (94, 102), (124, 102)]) (df := 106) (by decide +kernel) (by decide +kernel) (by decide +kernel)
theorem x116_100 : Ze d 116 100 [l0] st s = Ze d 116 101 [l0] (aI 1 :: st) s := Ze_n (i := (.iconst 1)) (len := 1) (by decide +kernel) rfl
theorem x116_101 : Ze d 116 101 [l0] [aI z] s = rI z s := Ze_i1 (by decide +kernel) rfl
theorem x116_102 : Ze d 116 102 [l0] st s = Ze d 116 103 [l0] (aI 2 :: st) s := Ze_n (i := (.iconst 2)) (len := 1) (by decide +kernel) rfl
theorem x116_103 : Ze d 116 103 [l0] [aI z] s = rI z s := Ze_i1 (by decide +kernel) rfl
theorem x116_104 : Ze d 116 104 [l0] st s = Ze d 116 105 [l0] (aI 3 :: st) s := Ze_n (i := (.iconst 3)) (len := 1) (by decide +kernel) rfl
theorem x116_105 : Ze d 116 105 [l0] [aI z] s = rI z s := Ze_i1 (by decide +kernel) rfl
theorem x116_106 : Ze d 116 106 [l0] st s = Ze d 116 107 [l0] (aI 0 :: st) s := Ze_n (i := (.iconst 0)) (len := 1) (by decide +kernel) rfl
theorem x116_107 : Ze d 116 107 [l0] [aI z] s = rI z s := Ze_i1 (by decide +kernel) rfl
theorem en116 : Zc (d + 1) 116 [aI a0] s = Ze d 116 0 [aI a0] [] s := rfl
