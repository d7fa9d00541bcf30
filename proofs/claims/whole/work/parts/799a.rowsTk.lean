variable {d r q : Nat} {l0 l1 l2 l3 l4 l5 l6 l7 l8 l9 l10 l11 l12 l13 l14 l15 : AV} {st : List AV} {s : Mem} {a b z i n dp sp a0 a1 a2 a3 a4 a5 a6 : Int} {r0 r1 r2 r3 r4 : Nat}
theorem x157_0 : Ze d 157 0 [aR r, l1, l2, l3, l4, l5] st s = Ze d 157 1 [aR r, l1, l2, l3, l4, l5] (aR r :: st) s := Ze_n (i := (.aload_n 0)) (len := 1) (by decide +kernel) rfl
theorem x157_1 : Ze d 157 1 [l0, l1, l2, l3, l4, l5] st s = Ze d 157 2 [l0, l1, l2, l3, l4, l5] (aI 0 :: st) s := Ze_n (i := (.iconst 0)) (len := 1) (by decide +kernel) rfl
theorem x157_2 (h : obC r = 11) : Ze d 157 2 [l0, l1, l2, l3, l4, l5] (aI z :: aR r :: st) s = Ze d 157 5 [l0, l1, l2, l3, l4, l5] st (mu s r 3 z) := Ze_n (i := .putfield 21) (len := 3) (by decide +kernel) (if_pos h)
theorem x157_5 : Ze d 157 5 [l0, l1, l2, l3, l4, l5] st s = Ze d 157 6 [l0, l1, l2, l3, l4, l5] (aI 0 :: st) s := Ze_n (i := (.iconst 0)) (len := 1) (by decide +kernel) rfl
theorem x157_6 : Ze d 157 6 [l0, l1, l2, l3, l4, l5] (aI z :: st) s = Ze d 157 7 [l0, l1, l2, aI z, l4, l5] st s := Ze_n (i := (.istore_n 3)) (len := 1) (by decide +kernel) rfl
theorem x157_7 : Ze d 157 7 [l0, l1, l2, aI z, l4, l5] st s = Ze d 157 8 [l0, l1, l2, aI z, l4, l5] (aI z :: st) s := Ze_n (i := (.iload_n 3)) (len := 1) (by decide +kernel) rfl
theorem x157_8 : Ze d 157 8 [l0, l1, aI z, l3, l4, l5] st s = Ze d 157 9 [l0, l1, aI z, l3, l4, l5] (aI z :: st) s := Ze_n (i := (.iload_n 2)) (len := 1) (by decide +kernel) rfl
theorem x157_9 : Ze d 157 9 [l0, l1, l2, l3, l4, l5] (aI b :: aI a :: st) s = if a < b then Ze d 157 12 [l0, l1, l2, l3, l4, l5] st s else Ze d 157 108 [l0, l1, l2, l3, l4, l5] st s := Ze_b (i := (.if_icmp .ge 99)) (len := 3) (by decide +kernel) rfl
theorem x157_12 : Ze d 157 12 [l0, aR r, l2, l3, l4, l5] st s = Ze d 157 13 [l0, aR r, l2, l3, l4, l5] (aR r :: st) s := Ze_n (i := (.aload_n 1)) (len := 1) (by decide +kernel) rfl
theorem x157_13 : Ze d 157 13 [l0, l1, l2, aI z, l4, l5] st s = Ze d 157 14 [l0, l1, l2, aI z, l4, l5] (aI z :: st) s := Ze_n (i := (.iload_n 3)) (len := 1) (by decide +kernel) rfl
theorem x157_14 (h0 : 0 ≤ i) (h1 : i < aN3 r) : Ze d 157 14 [l0, l1, l2, l3, l4, l5] (aI i :: aR r :: st) s = Ze d 157 15 [l0, l1, l2, l3, l4, l5] (aI (s r i.toNat) :: st) s := Ze_n (i := .caload) (len := 1) (by decide +kernel) (if_pos ⟨h0, h1⟩)
theorem x157_15 : Ze d 157 15 [l0, l1, l2, l3, l4, l5] (aI z :: st) s = Ze d 157 17 [l0, l1, l2, l3, aI z, l5] st s := Ze_n (i := (.istore 4)) (len := 2) (by decide +kernel) rfl
theorem x157_17 : Ze d 157 17 [l0, l1, l2, aI z, l4, l5] st s = Ze d 157 18 [l0, l1, l2, aI z, l4, l5] (aI z :: st) s := Ze_n (i := (.iload_n 3)) (len := 1) (by decide +kernel) rfl
theorem x157_18 : Ze d 157 18 [l0, l1, l2, l3, l4, l5] (aI a :: st) s = if 0 < a then Ze d 157 21 [l0, l1, l2, l3, l4, l5] st s else Ze d 157 29 [l0, l1, l2, l3, l4, l5] st s := Ze_b (i := (.ifCond .le 11)) (len := 3) (by decide +kernel) rfl
theorem x157_21 : Ze d 157 21 [l0, aR r, l2, l3, l4, l5] st s = Ze d 157 22 [l0, aR r, l2, l3, l4, l5] (aR r :: st) s := Ze_n (i := (.aload_n 1)) (len := 1) (by decide +kernel) rfl
theorem x157_22 : Ze d 157 22 [l0, l1, l2, aI z, l4, l5] st s = Ze d 157 23 [l0, l1, l2, aI z, l4, l5] (aI z :: st) s := Ze_n (i := (.iload_n 3)) (len := 1) (by decide +kernel) rfl
theorem x157_23 : Ze d 157 23 [l0, l1, l2, l3, l4, l5] st s = Ze d 157 24 [l0, l1, l2, l3, l4, l5] (aI 1 :: st) s := Ze_n (i := (.iconst 1)) (len := 1) (by decide +kernel) rfl
theorem x157_24 : Ze d 157 24 [l0, l1, l2, l3, l4, l5] (aI b :: aI a :: st) s = Ze d 157 25 [l0, l1, l2, l3, l4, l5] (aI (wrap (a - b)) :: st) s := Ze_n (i := .isub) (len := 1) (by decide +kernel) rfl
theorem x157_25 (h0 : 0 ≤ i) (h1 : i < aN3 r) : Ze d 157 25 [l0, l1, l2, l3, l4, l5] (aI i :: aR r :: st) s = Ze d 157 26 [l0, l1, l2, l3, l4, l5] (aI (s r i.toNat) :: st) s := Ze_n (i := .caload) (len := 1) (by decide +kernel) (if_pos ⟨h0, h1⟩)
theorem x157_26 : Ze d 157 26 [l0, l1, l2, l3, l4, l5] st s = Ze d 157 31 [l0, l1, l2, l3, l4, l5] st s := Ze_n (i := (.goto 5)) (len := 3) (by decide +kernel) rfl
theorem x157_29 : Ze d 157 29 [l0, l1, l2, l3, l4, l5] st s = Ze d 157 31 [l0, l1, l2, l3, l4, l5] (aI 32 :: st) s := Ze_n (i := (.bipush 32)) (len := 2) (by decide +kernel) rfl
theorem x157_31 : Ze d 157 31 [l0, l1, l2, l3, l4, l5] (aI z :: st) s = Ze d 157 33 [l0, l1, l2, l3, l4, aI z] st s := Ze_n (i := (.istore 5)) (len := 2) (by decide +kernel) rfl
theorem x157_33 : Ze d 157 33 [l0, l1, l2, l3, aI z, l5] st s = Ze d 157 35 [l0, l1, l2, l3, aI z, l5] (aI z :: st) s := Ze_n (i := (.iload 4)) (len := 2) (by decide +kernel) rfl
theorem x157_35 (h6 : st.length ≤ 4) : Ze d 157 35 [l0, l1, l2, l3, l4, l5] (aI a0 :: st) s = zcI (Zc d 160 [aI a0] s) d 157 38 [l0, l1, l2, l3, l4, l5] st := Ze_csI (idx := 25) (len := 3) (as := [aI a0]) (by decide +kernel) rfl rfl (by decide +kernel) rfl h6
theorem x157_38 : Ze d 157 38 [l0, l1, l2, l3, l4, l5] (aI a :: st) s = if a = 0 then Ze d 157 59 [l0, l1, l2, l3, l4, l5] st s else Ze d 157 41 [l0, l1, l2, l3, l4, l5] st s := Ze_b (i := (.ifCond .eq 21)) (len := 3) (by decide +kernel) rfl
theorem x157_41 : Ze d 157 41 [l0, l1, l2, l3, l4, aI z] st s = Ze d 157 43 [l0, l1, l2, l3, l4, aI z] (aI z :: st) s := Ze_n (i := (.iload 5)) (len := 2) (by decide +kernel) rfl
theorem x157_43 (h6 : st.length ≤ 4) : Ze d 157 43 [l0, l1, l2, l3, l4, l5] (aI a0 :: st) s = zcI (Zc d 160 [aI a0] s) d 157 46 [l0, l1, l2, l3, l4, l5] st := Ze_csI (idx := 25) (len := 3) (as := [aI a0]) (by decide +kernel) rfl rfl (by decide +kernel) rfl h6
theorem x157_46 : Ze d 157 46 [l0, l1, l2, l3, l4, l5] (aI a :: st) s = if a = 0 then Ze d 157 59 [l0, l1, l2, l3, l4, l5] st s else Ze d 157 49 [l0, l1, l2, l3, l4, l5] st s := Ze_b (i := (.ifCond .eq 13)) (len := 3) (by decide +kernel) rfl
theorem x157_49 : Ze d 157 49 [aR r, l1, l2, l3, l4, l5] st s = Ze d 157 50 [aR r, l1, l2, l3, l4, l5] (aR r :: st) s := Ze_n (i := (.aload_n 0)) (len := 1) (by decide +kernel) rfl
theorem x157_50 : Ze d 157 50 [l0, l1, l2, l3, aI z, l5] st s = Ze d 157 52 [l0, l1, l2, l3, aI z, l5] (aI z :: st) s := Ze_n (i := (.iload 4)) (len := 2) (by decide +kernel) rfl
theorem x157_52 : Ze d 157 52 [l0, l1, l2, aI z, l4, l5] st s = Ze d 157 53 [l0, l1, l2, aI z, l4, l5] (aI z :: st) s := Ze_n (i := (.iload_n 3)) (len := 1) (by decide +kernel) rfl
theorem x157_53 (h : obC r = 11) (h6 : st.length ≤ 4) : Ze d 157 53 [l0, l1, l2, l3, l4, l5] (aI a2 :: aI a1 :: aR r :: st) s = zcV (Zc d 159 [aR r, aI a1, aI a2] s) d 157 56 [l0, l1, l2, l3, l4, l5] st := Ze_cvV (idx := 29) (len := 3) (as := [aI a1, aI a2]) (by decide +kernel) rfl (by decide +kernel) rfl h h6
theorem x157_56 : Ze d 157 56 [l0, l1, l2, l3, l4, l5] st s = Ze d 157 102 [l0, l1, l2, l3, l4, l5] st s := Ze_n (i := (.goto 46)) (len := 3) (by decide +kernel) rfl
theorem x157_59 : Ze d 157 59 [l0, l1, l2, l3, aI z, l5] st s = Ze d 157 61 [l0, l1, l2, l3, aI z, l5] (aI z :: st) s := Ze_n (i := (.iload 4)) (len := 2) (by decide +kernel) rfl
theorem x157_61 : Ze d 157 61 [l0, l1, l2, l3, l4, l5] st s = Ze d 157 63 [l0, l1, l2, l3, l4, l5] (aI 61 :: st) s := Ze_n (i := (.bipush 61)) (len := 2) (by decide +kernel) rfl
theorem x157_63 : Ze d 157 63 [l0, l1, l2, l3, l4, l5] (aI b :: aI a :: st) s = if a = b then Ze d 157 66 [l0, l1, l2, l3, l4, l5] st s else Ze d 157 88 [l0, l1, l2, l3, l4, l5] st s := Ze_b (i := (.if_icmp .ne 25)) (len := 3) (by decide +kernel) rfl
theorem x157_66 : Ze d 157 66 [l0, l1, l2, l3, l4, aI z] st s = Ze d 157 68 [l0, l1, l2, l3, l4, aI z] (aI z :: st) s := Ze_n (i := (.iload 5)) (len := 2) (by decide +kernel) rfl
theorem x157_68 : Ze d 157 68 [l0, l1, l2, l3, l4, l5] st s = Ze d 157 70 [l0, l1, l2, l3, l4, l5] (aI 60 :: st) s := Ze_n (i := (.bipush 60)) (len := 2) (by decide +kernel) rfl
theorem x157_70 : Ze d 157 70 [l0, l1, l2, l3, l4, l5] (aI b :: aI a :: st) s = if a = b then Ze d 157 73 [l0, l1, l2, l3, l4, l5] st s else Ze d 157 88 [l0, l1, l2, l3, l4, l5] st s := Ze_b (i := (.if_icmp .ne 18)) (len := 3) (by decide +kernel) rfl
theorem x157_73 : Ze d 157 73 [aR r, l1, l2, l3, l4, l5] st s = Ze d 157 74 [aR r, l1, l2, l3, l4, l5] (aR r :: st) s := Ze_n (i := (.aload_n 0)) (len := 1) (by decide +kernel) rfl
theorem x157_74 (h : obC r = 11) : Ze d 157 74 [l0, l1, l2, l3, l4, l5] (aR r :: st) s = Ze d 157 77 [l0, l1, l2, l3, l4, l5] (aR (fcn r 0) :: st) s := Ze_gf (len := 3) (idx := 9) (by decide +kernel) rfl h rfl
theorem x157_77 : Ze d 157 77 [aR r, l1, l2, l3, l4, l5] st s = Ze d 157 78 [aR r, l1, l2, l3, l4, l5] (aR r :: st) s := Ze_n (i := (.aload_n 0)) (len := 1) (by decide +kernel) rfl
theorem x157_78 (h : obC r = 11) : Ze d 157 78 [l0, l1, l2, l3, l4, l5] (aR r :: st) s = Ze d 157 81 [l0, l1, l2, l3, l4, l5] (aI (s r 3) :: st) s := Ze_gf (len := 3) (idx := 21) (by decide +kernel) rfl h rfl
theorem x157_81 : Ze d 157 81 [l0, l1, l2, l3, l4, l5] st s = Ze d 157 82 [l0, l1, l2, l3, l4, l5] (aI 1 :: st) s := Ze_n (i := (.iconst 1)) (len := 1) (by decide +kernel) rfl
theorem x157_82 : Ze d 157 82 [l0, l1, l2, l3, l4, l5] (aI b :: aI a :: st) s = Ze d 157 83 [l0, l1, l2, l3, l4, l5] (aI (wrap (a - b)) :: st) s := Ze_n (i := .isub) (len := 1) (by decide +kernel) rfl
theorem x157_83 : Ze d 157 83 [l0, l1, l2, l3, l4, l5] st s = Ze d 157 84 [l0, l1, l2, l3, l4, l5] (aI 3 :: st) s := Ze_n (i := (.iconst 3)) (len := 1) (by decide +kernel) rfl
theorem x157_84 (h0 : 0 ≤ i) (h1 : i < aN1 r) : Ze d 157 84 [l0, l1, l2, l3, l4, l5] (aI z :: aI i :: aR r :: st) s = Ze d 157 85 [l0, l1, l2, l3, l4, l5] st (mu s r i.toNat z) := Ze_n (i := .iastore) (len := 1) (by decide +kernel) (if_pos ⟨h0, h1⟩)
theorem x157_85 : Ze d 157 85 [l0, l1, l2, l3, l4, l5] st s = Ze d 157 102 [l0, l1, l2, l3, l4, l5] st s := Ze_n (i := (.goto 17)) (len := 3) (by decide +kernel) rfl
theorem x157_88 : Ze d 157 88 [l0, l1, l2, l3, aI z, l5] st s = Ze d 157 90 [l0, l1, l2, l3, aI z, l5] (aI z :: st) s := Ze_n (i := (.iload 4)) (len := 2) (by decide +kernel) rfl
theorem x157_90 : Ze d 157 90 [l0, l1, l2, l3, l4, l5] st s = Ze d 157 92 [l0, l1, l2, l3, l4, l5] (aI 32 :: st) s := Ze_n (i := (.bipush 32)) (len := 2) (by decide +kernel) rfl
theorem x157_92 : Ze d 157 92 [l0, l1, l2, l3, l4, l5] (aI b :: aI a :: st) s = if a = b then Ze d 157 102 [l0, l1, l2, l3, l4, l5] st s else Ze d 157 95 [l0, l1, l2, l3, l4, l5] st s := Ze_b (i := (.if_icmp .eq 10)) (len := 3) (by decide +kernel) rfl
theorem x157_95 : Ze d 157 95 [aR r, l1, l2, l3, l4, l5] st s = Ze d 157 96 [aR r, l1, l2, l3, l4, l5] (aR r :: st) s := Ze_n (i := (.aload_n 0)) (len := 1) (by decide +kernel) rfl
theorem x157_96 : Ze d 157 96 [l0, l1, l2, l3, aI z, l5] st s = Ze d 157 98 [l0, l1, l2, l3, aI z, l5] (aI z :: st) s := Ze_n (i := (.iload 4)) (len := 2) (by decide +kernel) rfl
theorem x157_98 : Ze d 157 98 [l0, l1, l2, aI z, l4, l5] st s = Ze d 157 99 [l0, l1, l2, aI z, l4, l5] (aI z :: st) s := Ze_n (i := (.iload_n 3)) (len := 1) (by decide +kernel) rfl
theorem x157_99 (h : obC r = 11) (h6 : st.length ≤ 4) : Ze d 157 99 [l0, l1, l2, l3, l4, l5] (aI a2 :: aI a1 :: aR r :: st) s = zcV (Zc d 158 [aR r, aI a1, aI a2] s) d 157 102 [l0, l1, l2, l3, l4, l5] st := Ze_cvV (idx := 33) (len := 3) (as := [aI a1, aI a2]) (by decide +kernel) rfl (by decide +kernel) rfl h h6
theorem x157_102 : Ze d 157 102 [l0, l1, l2, aI z, l4, l5] st s = Ze d 157 105 [l0, l1, l2, aI (wrap (z + 1)), l4, l5] st s := Ze_n (i := (.iinc 3 1)) (len := 3) (by decide +kernel) rfl
theorem x157_105 : Ze d 157 105 [l0, l1, l2, l3, l4, l5] st s = Ze d 157 7 [l0, l1, l2, l3, l4, l5] st s := Ze_n (i := (.goto (-98))) (len := 3) (by decide +kernel) rfl
theorem x157_108 : Ze d 157 108 [aR r, l1, l2, l3, l4, l5] st s = Ze d 157 109 [aR r, l1, l2, l3, l4, l5] (aR r :: st) s := Ze_n (i := (.aload_n 0)) (len := 1) (by decide +kernel) rfl
theorem x157_109 (h : obC r = 11) : Ze d 157 109 [l0, l1, l2, l3, l4, l5] (aR r :: st) s = Ze d 157 112 [l0, l1, l2, l3, l4, l5] (aR (fcn r 0) :: st) s := Ze_gf (len := 3) (idx := 9) (by decide +kernel) rfl h rfl
theorem x157_112 : Ze d 157 112 [aR r, l1, l2, l3, l4, l5] st s = Ze d 157 113 [aR r, l1, l2, l3, l4, l5] (aR r :: st) s := Ze_n (i := (.aload_n 0)) (len := 1) (by decide +kernel) rfl
theorem x157_113 (h : obC r = 11) : Ze d 157 113 [l0, l1, l2, l3, l4, l5] (aR r :: st) s = Ze d 157 116 [l0, l1, l2, l3, l4, l5] (aI (s r 3) :: st) s := Ze_gf (len := 3) (idx := 21) (by decide +kernel) rfl h rfl
theorem x157_116 : Ze d 157 116 [l0, l1, l2, l3, l4, l5] st s = Ze d 157 117 [l0, l1, l2, l3, l4, l5] (aI 0 :: st) s := Ze_n (i := (.iconst 0)) (len := 1) (by decide +kernel) rfl
theorem x157_117 (h0 : 0 ≤ i) (h1 : i < aN1 r) : Ze d 157 117 [l0, l1, l2, l3, l4, l5] (aI z :: aI i :: aR r :: st) s = Ze d 157 118 [l0, l1, l2, l3, l4, l5] st (mu s r i.toNat z) := Ze_n (i := .iastore) (len := 1) (by decide +kernel) (if_pos ⟨h0, h1⟩)
theorem x157_118 : Ze d 157 118 [aR r, l1, l2, l3, l4, l5] st s = Ze d 157 119 [aR r, l1, l2, l3, l4, l5] (aR r :: st) s := Ze_n (i := (.aload_n 0)) (len := 1) (by decide +kernel) rfl
theorem x157_119 (h : obC r = 11) : Ze d 157 119 [l0, l1, l2, l3, l4, l5] (aR r :: st) s = Ze d 157 122 [l0, l1, l2, l3, l4, l5] (aR (fcn r 1) :: st) s := Ze_gf (len := 3) (idx := 15) (by decide +kernel) rfl h rfl
theorem x157_122 : Ze d 157 122 [aR r, l1, l2, l3, l4, l5] st s = Ze d 157 123 [aR r, l1, l2, l3, l4, l5] (aR r :: st) s := Ze_n (i := (.aload_n 0)) (len := 1) (by decide +kernel) rfl
theorem x157_123 (h : obC r = 11) : Ze d 157 123 [l0, l1, l2, l3, l4, l5] (aR r :: st) s = Ze d 157 126 [l0, l1, l2, l3, l4, l5] (aI (s r 3) :: st) s := Ze_gf (len := 3) (idx := 21) (by decide +kernel) rfl h rfl
theorem x157_126 : Ze d 157 126 [l0, l1, aI z, l3, l4, l5] st s = Ze d 157 127 [l0, l1, aI z, l3, l4, l5] (aI z :: st) s := Ze_n (i := (.iload_n 2)) (len := 1) (by decide +kernel) rfl
theorem x157_127 (h0 : 0 ≤ i) (h1 : i < aN1 r) : Ze d 157 127 [l0, l1, l2, l3, l4, l5] (aI z :: aI i :: aR r :: st) s = Ze d 157 128 [l0, l1, l2, l3, l4, l5] st (mu s r i.toNat z) := Ze_n (i := .iastore) (len := 1) (by decide +kernel) (if_pos ⟨h0, h1⟩)
theorem x157_128 : Ze d 157 128 [l0, l1, l2, l3, l4, l5] [] s = rV s := Ze_v (by decide +kernel) rfl
theorem en157 : Zc (d + 1) 157 [aR r, aR r1, aI a2] s = Ze d 157 0 [aR r, aR r1, aI a2, aU, aU, aU] [] s := rfl
theorem x158_0 : Ze d 158 0 [aR r, l1, l2] st s = Ze d 158 1 [aR r, l1, l2] (aR r :: st) s := Ze_n (i := (.aload_n 0)) (len := 1) (by decide +kernel) rfl
theorem x158_1 (h : obC r = 11) : Ze d 158 1 [l0, l1, l2] (aR r :: st) s = Ze d 158 4 [l0, l1, l2] (aR (fcn r 1) :: st) s := Ze_gf (len := 3) (idx := 15) (by decide +kernel) rfl h rfl
theorem x158_4 : Ze d 158 4 [aR r, l1, l2] st s = Ze d 158 5 [aR r, l1, l2] (aR r :: st) s := Ze_n (i := (.aload_n 0)) (len := 1) (by decide +kernel) rfl
theorem x158_5 (h : obC r = 11) : Ze d 158 5 [l0, l1, l2] (aR r :: st) s = Ze d 158 8 [l0, l1, l2] (aI (s r 3) :: st) s := Ze_gf (len := 3) (idx := 21) (by decide +kernel) rfl h rfl
theorem x158_8 : Ze d 158 8 [l0, l1, aI z] st s = Ze d 158 9 [l0, l1, aI z] (aI z :: st) s := Ze_n (i := (.iload_n 2)) (len := 1) (by decide +kernel) rfl
theorem x158_9 (h0 : 0 ≤ i) (h1 : i < aN1 r) : Ze d 158 9 [l0, l1, l2] (aI z :: aI i :: aR r :: st) s = Ze d 158 10 [l0, l1, l2] st (mu s r i.toNat z) := Ze_n (i := .iastore) (len := 1) (by decide +kernel) (if_pos ⟨h0, h1⟩)
theorem x158_10 : Ze d 158 10 [aR r, l1, l2] st s = Ze d 158 11 [aR r, l1, l2] (aR r :: st) s := Ze_n (i := (.aload_n 0)) (len := 1) (by decide +kernel) rfl
theorem x158_11 (h : obC r = 11) : Ze d 158 11 [l0, l1, l2] (aR r :: st) s = Ze d 158 14 [l0, l1, l2] (aR (fcn r 0) :: st) s := Ze_gf (len := 3) (idx := 9) (by decide +kernel) rfl h rfl
theorem x158_14 : Ze d 158 14 [aR r, l1, l2] st s = Ze d 158 15 [aR r, l1, l2] (aR r :: st) s := Ze_n (i := (.aload_n 0)) (len := 1) (by decide +kernel) rfl
theorem x158_15 (h : obC r = 11) : Ze d 158 15 [l0, l1, l2] (aR r :: st) s = Ze d 158 18 [l0, l1, l2] (aI (s r 3) :: st) s := Ze_gf (len := 3) (idx := 21) (by decide +kernel) rfl h rfl
theorem x158_18 : Ze d 158 18 [l0, aI z, l2] st s = Ze d 158 19 [l0, aI z, l2] (aI z :: st) s := Ze_n (i := (.iload_n 1)) (len := 1) (by decide +kernel) rfl
theorem x158_19 (h6 : st.length ≤ 4) : Ze d 158 19 [l0, l1, l2] (aI a0 :: st) s = zcI (Zc d 160 [aI a0] s) d 158 22 [l0, l1, l2] st := Ze_csI (idx := 25) (len := 3) (as := [aI a0]) (by decide +kernel) rfl rfl (by decide +kernel) rfl h6
theorem x158_22 : Ze d 158 22 [l0, l1, l2] (aI a :: st) s = if a = 0 then Ze d 158 29 [l0, l1, l2] st s else Ze d 158 25 [l0, l1, l2] st s := Ze_b (i := (.ifCond .eq 7)) (len := 3) (by decide +kernel) rfl
theorem x158_25 : Ze d 158 25 [l0, l1, l2] st s = Ze d 158 26 [l0, l1, l2] (aI 2 :: st) s := Ze_n (i := (.iconst 2)) (len := 1) (by decide +kernel) rfl
theorem x158_26 : Ze d 158 26 [l0, l1, l2] st s = Ze d 158 30 [l0, l1, l2] st s := Ze_n (i := (.goto 4)) (len := 3) (by decide +kernel) rfl
theorem x158_29 : Ze d 158 29 [l0, aI z, l2] st s = Ze d 158 30 [l0, aI z, l2] (aI z :: st) s := Ze_n (i := (.iload_n 1)) (len := 1) (by decide +kernel) rfl
theorem x158_30 (h0 : 0 ≤ i) (h1 : i < aN1 r) : Ze d 158 30 [l0, l1, l2] (aI z :: aI i :: aR r :: st) s = Ze d 158 31 [l0, l1, l2] st (mu s r i.toNat z) := Ze_n (i := .iastore) (len := 1) (by decide +kernel) (if_pos ⟨h0, h1⟩)
theorem x158_31 : Ze d 158 31 [aR r, l1, l2] st s = Ze d 158 32 [aR r, l1, l2] (aR r :: st) s := Ze_n (i := (.aload_n 0)) (len := 1) (by decide +kernel) rfl
theorem x158_32 (h : obC r = 11) : Ze d 158 32 [l0, l1, l2] (aR r :: st) s = Ze d 158 35 [l0, l1, l2] (aR (fcn r 2) :: st) s := Ze_gf (len := 3) (idx := 18) (by decide +kernel) rfl h rfl
theorem x158_35 : Ze d 158 35 [aR r, l1, l2] st s = Ze d 158 36 [aR r, l1, l2] (aR r :: st) s := Ze_n (i := (.aload_n 0)) (len := 1) (by decide +kernel) rfl
theorem x158_36 (h : obC r = 11) : Ze d 158 36 [l0, l1, l2] (aR r :: st) s = Ze d 158 39 [l0, l1, l2] (aI (s r 3) :: st) s := Ze_gf (len := 3) (idx := 21) (by decide +kernel) rfl h rfl
theorem x158_39 : Ze d 158 39 [l0, aI z, l2] st s = Ze d 158 40 [l0, aI z, l2] (aI z :: st) s := Ze_n (i := (.iload_n 1)) (len := 1) (by decide +kernel) rfl
theorem x158_40 : Ze d 158 40 [l0, l1, l2] st s = Ze d 158 42 [l0, l1, l2] (aI 48 :: st) s := Ze_n (i := (.bipush 48)) (len := 2) (by decide +kernel) rfl
theorem x158_42 : Ze d 158 42 [l0, l1, l2] (aI b :: aI a :: st) s = Ze d 158 43 [l0, l1, l2] (aI (wrap (a - b)) :: st) s := Ze_n (i := .isub) (len := 1) (by decide +kernel) rfl
theorem x158_43 (h0 : 0 ≤ i) (h1 : i < aN1 r) : Ze d 158 43 [l0, l1, l2] (aI z :: aI i :: aR r :: st) s = Ze d 158 44 [l0, l1, l2] st (mu s r i.toNat z) := Ze_n (i := .iastore) (len := 1) (by decide +kernel) (if_pos ⟨h0, h1⟩)
theorem x158_44 : Ze d 158 44 [aR r, l1, l2] st s = Ze d 158 45 [aR r, l1, l2] (aR r :: st) s := Ze_n (i := (.aload_n 0)) (len := 1) (by decide +kernel) rfl
theorem x158_45 : Ze d 158 45 [l0, l1, l2] (aR r :: st) s = Ze d 158 46 [l0, l1, l2] (aR r :: aR r :: st) s := Ze_n (i := .dup) (len := 1) (by decide +kernel) rfl
theorem x158_45i : Ze d 158 45 [l0, l1, l2] (aI a :: st) s = Ze d 158 46 [l0, l1, l2] (aI a :: aI a :: st) s := Ze_n (i := .dup) (len := 1) (by decide +kernel) rfl
theorem x158_46 (h : obC r = 11) : Ze d 158 46 [l0, l1, l2] (aR r :: st) s = Ze d 158 49 [l0, l1, l2] (aI (s r 3) :: st) s := Ze_gf (len := 3) (idx := 21) (by decide +kernel) rfl h rfl
theorem x158_49 : Ze d 158 49 [l0, l1, l2] st s = Ze d 158 50 [l0, l1, l2] (aI 1 :: st) s := Ze_n (i := (.iconst 1)) (len := 1) (by decide +kernel) rfl
theorem x158_50 : Ze d 158 50 [l0, l1, l2] (aI b :: aI a :: st) s = Ze d 158 51 [l0, l1, l2] (aI (wrap (a + b)) :: st) s := Ze_n (i := .iadd) (len := 1) (by decide +kernel) rfl
theorem x158_51 (h : obC r = 11) : Ze d 158 51 [l0, l1, l2] (aI z :: aR r :: st) s = Ze d 158 54 [l0, l1, l2] st (mu s r 3 z) := Ze_n (i := .putfield 21) (len := 3) (by decide +kernel) (if_pos h)
theorem x158_54 : Ze d 158 54 [l0, l1, l2] [] s = rV s := Ze_v (by decide +kernel) rfl
theorem en158 : Zc (d + 1) 158 [aR r, aI a1, aI a2] s = Ze d 158 0 [aR r, aI a1, aI a2] [] s := rfl
theorem x159_0 : Ze d 159 0 [aR r, l1, l2, l3] st s = Ze d 159 1 [aR r, l1, l2, l3] (aR r :: st) s := Ze_n (i := (.aload_n 0)) (len := 1) (by decide +kernel) rfl
theorem x159_1 (h : obC r = 11) : Ze d 159 1 [l0, l1, l2, l3] (aR r :: st) s = Ze d 159 4 [l0, l1, l2, l3] (aI (s r 3) :: st) s := Ze_gf (len := 3) (idx := 21) (by decide +kernel) rfl h rfl
theorem x159_4 : Ze d 159 4 [l0, l1, l2, l3] st s = Ze d 159 5 [l0, l1, l2, l3] (aI 1 :: st) s := Ze_n (i := (.iconst 1)) (len := 1) (by decide +kernel) rfl
theorem x159_5 : Ze d 159 5 [l0, l1, l2, l3] (aI b :: aI a :: st) s = Ze d 159 6 [l0, l1, l2, l3] (aI (wrap (a - b)) :: st) s := Ze_n (i := .isub) (len := 1) (by decide +kernel) rfl
theorem x159_6 : Ze d 159 6 [l0, l1, l2, l3] (aI z :: st) s = Ze d 159 7 [l0, l1, l2, aI z] st s := Ze_n (i := (.istore_n 3)) (len := 1) (by decide +kernel) rfl
theorem x159_7 : Ze d 159 7 [aR r, l1, l2, l3] st s = Ze d 159 8 [aR r, l1, l2, l3] (aR r :: st) s := Ze_n (i := (.aload_n 0)) (len := 1) (by decide +kernel) rfl
theorem x159_8 (h : obC r = 11) : Ze d 159 8 [l0, l1, l2, l3] (aR r :: st) s = Ze d 159 11 [l0, l1, l2, l3] (aR (fcn r 2) :: st) s := Ze_gf (len := 3) (idx := 18) (by decide +kernel) rfl h rfl
theorem x159_11 : Ze d 159 11 [l0, l1, l2, aI z] st s = Ze d 159 12 [l0, l1, l2, aI z] (aI z :: st) s := Ze_n (i := (.iload_n 3)) (len := 1) (by decide +kernel) rfl
theorem x159_12 : Ze d 159 12 [aR r, l1, l2, l3] st s = Ze d 159 13 [aR r, l1, l2, l3] (aR r :: st) s := Ze_n (i := (.aload_n 0)) (len := 1) (by decide +kernel) rfl
theorem x159_13 (h : obC r = 11) : Ze d 159 13 [l0, l1, l2, l3] (aR r :: st) s = Ze d 159 16 [l0, l1, l2, l3] (aR (fcn r 2) :: st) s := Ze_gf (len := 3) (idx := 18) (by decide +kernel) rfl h rfl
theorem x159_16 : Ze d 159 16 [l0, l1, l2, aI z] st s = Ze d 159 17 [l0, l1, l2, aI z] (aI z :: st) s := Ze_n (i := (.iload_n 3)) (len := 1) (by decide +kernel) rfl
theorem x159_17 (h0 : 0 ≤ i) (h1 : i < aN1 r) : Ze d 159 17 [l0, l1, l2, l3] (aI i :: aR r :: st) s = Ze d 159 18 [l0, l1, l2, l3] (aI (s r i.toNat) :: st) s := Ze_n (i := .iaload) (len := 1) (by decide +kernel) (if_pos ⟨h0, h1⟩)
theorem x159_18 : Ze d 159 18 [l0, l1, l2, l3] st s = Ze d 159 20 [l0, l1, l2, l3] (aI 10 :: st) s := Ze_n (i := (.bipush 10)) (len := 2) (by decide +kernel) rfl
theorem x159_20 : Ze d 159 20 [l0, l1, l2, l3] (aI b :: aI a :: st) s = Ze d 159 21 [l0, l1, l2, l3] (aI (wrap (a * b)) :: st) s := Ze_n (i := .imul) (len := 1) (by decide +kernel) rfl
theorem x159_21 : Ze d 159 21 [l0, aI z, l2, l3] st s = Ze d 159 22 [l0, aI z, l2, l3] (aI z :: st) s := Ze_n (i := (.iload_n 1)) (len := 1) (by decide +kernel) rfl
theorem x159_22 : Ze d 159 22 [l0, l1, l2, l3] (aI b :: aI a :: st) s = Ze d 159 23 [l0, l1, l2, l3] (aI (wrap (a + b)) :: st) s := Ze_n (i := .iadd) (len := 1) (by decide +kernel) rfl
theorem x159_23 : Ze d 159 23 [l0, l1, l2, l3] st s = Ze d 159 25 [l0, l1, l2, l3] (aI 48 :: st) s := Ze_n (i := (.bipush 48)) (len := 2) (by decide +kernel) rfl
theorem x159_25 : Ze d 159 25 [l0, l1, l2, l3] (aI b :: aI a :: st) s = Ze d 159 26 [l0, l1, l2, l3] (aI (wrap (a - b)) :: st) s := Ze_n (i := .isub) (len := 1) (by decide +kernel) rfl
theorem x159_26 : Ze d 159 26 [l0, l1, l2, l3] st s = Ze d 159 28 [l0, l1, l2, l3] (aI 65536 :: st) s := Ze_n (i := (.ldc 36)) (len := 2) (by decide +kernel) rfl
theorem x159_28 (h6 : st.length ≤ 4) : Ze d 159 28 [l0, l1, l2, l3] (aI b :: aI a :: st) s = Ze d 159 31 [l0, l1, l2, l3] (aI (min a b) :: st) s := Ze_n (i := (.invokestatic 37)) (len := 3) (by decide +kernel) (if_pos h6)
theorem x159_31 (h0 : 0 ≤ i) (h1 : i < aN1 r) : Ze d 159 31 [l0, l1, l2, l3] (aI z :: aI i :: aR r :: st) s = Ze d 159 32 [l0, l1, l2, l3] st (mu s r i.toNat z) := Ze_n (i := .iastore) (len := 1) (by decide +kernel) (if_pos ⟨h0, h1⟩)
theorem x159_32 : Ze d 159 32 [aR r, l1, l2, l3] st s = Ze d 159 33 [aR r, l1, l2, l3] (aR r :: st) s := Ze_n (i := (.aload_n 0)) (len := 1) (by decide +kernel) rfl
theorem x159_33 (h : obC r = 11) : Ze d 159 33 [l0, l1, l2, l3] (aR r :: st) s = Ze d 159 36 [l0, l1, l2, l3] (aR (fcn r 2) :: st) s := Ze_gf (len := 3) (idx := 18) (by decide +kernel) rfl h rfl
theorem x159_36 : Ze d 159 36 [l0, l1, l2, aI z] st s = Ze d 159 37 [l0, l1, l2, aI z] (aI z :: st) s := Ze_n (i := (.iload_n 3)) (len := 1) (by decide +kernel) rfl
theorem x159_37 (h0 : 0 ≤ i) (h1 : i < aN1 r) : Ze d 159 37 [l0, l1, l2, l3] (aI i :: aR r :: st) s = Ze d 159 38 [l0, l1, l2, l3] (aI (s r i.toNat) :: st) s := Ze_n (i := .iaload) (len := 1) (by decide +kernel) (if_pos ⟨h0, h1⟩)
theorem x159_38 : Ze d 159 38 [l0, l1, l2, l3] st s = Ze d 159 40 [l0, l1, l2, l3] (aI 65535 :: st) s := Ze_n (i := (.ldc 43)) (len := 2) (by decide +kernel) rfl
theorem x159_40 : Ze d 159 40 [l0, l1, l2, l3] (aI b :: aI a :: st) s = if b < a then Ze d 159 55 [l0, l1, l2, l3] st s else Ze d 159 43 [l0, l1, l2, l3] st s := Ze_b (i := (.if_icmp .gt 15)) (len := 3) (by decide +kernel) rfl
theorem x159_43 : Ze d 159 43 [l0, l1, aI z, l3] st s = Ze d 159 44 [l0, l1, aI z, l3] (aI z :: st) s := Ze_n (i := (.iload_n 2)) (len := 1) (by decide +kernel) rfl
theorem x159_44 : Ze d 159 44 [aR r, l1, l2, l3] st s = Ze d 159 45 [aR r, l1, l2, l3] (aR r :: st) s := Ze_n (i := (.aload_n 0)) (len := 1) (by decide +kernel) rfl
theorem x159_45 (h : obC r = 11) : Ze d 159 45 [l0, l1, l2, l3] (aR r :: st) s = Ze d 159 48 [l0, l1, l2, l3] (aR (fcn r 1) :: st) s := Ze_gf (len := 3) (idx := 15) (by decide +kernel) rfl h rfl
theorem x159_48 : Ze d 159 48 [l0, l1, l2, aI z] st s = Ze d 159 49 [l0, l1, l2, aI z] (aI z :: st) s := Ze_n (i := (.iload_n 3)) (len := 1) (by decide +kernel) rfl
theorem x159_49 (h0 : 0 ≤ i) (h1 : i < aN1 r) : Ze d 159 49 [l0, l1, l2, l3] (aI i :: aR r :: st) s = Ze d 159 50 [l0, l1, l2, l3] (aI (s r i.toNat) :: st) s := Ze_n (i := .iaload) (len := 1) (by decide +kernel) (if_pos ⟨h0, h1⟩)
theorem x159_50 : Ze d 159 50 [l0, l1, l2, l3] (aI b :: aI a :: st) s = Ze d 159 51 [l0, l1, l2, l3] (aI (wrap (a - b)) :: st) s := Ze_n (i := .isub) (len := 1) (by decide +kernel) rfl
theorem x159_51 : Ze d 159 51 [l0, l1, l2, l3] st s = Ze d 159 52 [l0, l1, l2, l3] (aI 5 :: st) s := Ze_n (i := (.iconst 5)) (len := 1) (by decide +kernel) rfl
theorem x159_52 : Ze d 159 52 [l0, l1, l2, l3] (aI b :: aI a :: st) s = if a < b then Ze d 159 62 [l0, l1, l2, l3] st s else Ze d 159 55 [l0, l1, l2, l3] st s := Ze_b (i := (.if_icmp .lt 10)) (len := 3) (by decide +kernel) rfl
theorem x159_55 : Ze d 159 55 [aR r, l1, l2, l3] st s = Ze d 159 56 [aR r, l1, l2, l3] (aR r :: st) s := Ze_n (i := (.aload_n 0)) (len := 1) (by decide +kernel) rfl
theorem x159_56 (h : obC r = 11) : Ze d 159 56 [l0, l1, l2, l3] (aR r :: st) s = Ze d 159 59 [l0, l1, l2, l3] (aR (fcn r 0) :: st) s := Ze_gf (len := 3) (idx := 9) (by decide +kernel) rfl h rfl
theorem x159_59 : Ze d 159 59 [l0, l1, l2, aI z] st s = Ze d 159 60 [l0, l1, l2, aI z] (aI z :: st) s := Ze_n (i := (.iload_n 3)) (len := 1) (by decide +kernel) rfl
theorem x159_60 : Ze d 159 60 [l0, l1, l2, l3] st s = Ze d 159 61 [l0, l1, l2, l3] (aI 1 :: st) s := Ze_n (i := (.iconst 1)) (len := 1) (by decide +kernel) rfl
theorem x159_61 (h0 : 0 ≤ i) (h1 : i < aN1 r) : Ze d 159 61 [l0, l1, l2, l3] (aI z :: aI i :: aR r :: st) s = Ze d 159 62 [l0, l1, l2, l3] st (mu s r i.toNat z) := Ze_n (i := .iastore) (len := 1) (by decide +kernel) (if_pos ⟨h0, h1⟩)
theorem x159_62 : Ze d 159 62 [l0, l1, l2, l3] [] s = rV s := Ze_v (by decide +kernel) rfl
theorem en159 : Zc (d + 1) 159 [aR r, aI a1, aI a2] s = Ze d 159 0 [aR r, aI a1, aI a2, aU] [] s := rfl
theorem x160_0 : Ze d 160 0 [aI z] st s = Ze d 160 1 [aI z] (aI z :: st) s := Ze_n (i := (.iload_n 0)) (len := 1) (by decide +kernel) rfl
theorem x160_1 : Ze d 160 1 [l0] st s = Ze d 160 3 [l0] (aI 48 :: st) s := Ze_n (i := (.bipush 48)) (len := 2) (by decide +kernel) rfl
theorem x160_3 : Ze d 160 3 [l0] (aI b :: aI a :: st) s = if a < b then Ze d 160 16 [l0] st s else Ze d 160 6 [l0] st s := Ze_b (i := (.if_icmp .lt 13)) (len := 3) (by decide +kernel) rfl
theorem x160_6 : Ze d 160 6 [aI z] st s = Ze d 160 7 [aI z] (aI z :: st) s := Ze_n (i := (.iload_n 0)) (len := 1) (by decide +kernel) rfl
theorem x160_7 : Ze d 160 7 [l0] st s = Ze d 160 9 [l0] (aI 57 :: st) s := Ze_n (i := (.bipush 57)) (len := 2) (by decide +kernel) rfl
theorem x160_9 : Ze d 160 9 [l0] (aI b :: aI a :: st) s = if b < a then Ze d 160 16 [l0] st s else Ze d 160 12 [l0] st s := Ze_b (i := (.if_icmp .gt 7)) (len := 3) (by decide +kernel) rfl
theorem x160_12 : Ze d 160 12 [l0] st s = Ze d 160 13 [l0] (aI 1 :: st) s := Ze_n (i := (.iconst 1)) (len := 1) (by decide +kernel) rfl
theorem x160_13 : Ze d 160 13 [l0] st s = Ze d 160 17 [l0] st s := Ze_n (i := (.goto 4)) (len := 3) (by decide +kernel) rfl
theorem x160_16 : Ze d 160 16 [l0] st s = Ze d 160 17 [l0] (aI 0 :: st) s := Ze_n (i := (.iconst 0)) (len := 1) (by decide +kernel) rfl
theorem x160_17 (h : z = 0 ∨ z = 1) : Ze d 160 17 [l0] [aI z] s = rI z s := Ze_i2 (by decide +kernel) rfl h
theorem en160 : Zc (d + 1) 160 [aI a0] s = Ze d 160 0 [aI a0] [] s := rfl
