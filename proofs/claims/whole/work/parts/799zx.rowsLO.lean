variable {d r q : Nat} {l0 l1 l2 l3 l4 l5 l6 l7 l8 l9 l10 l11 l12 l13 l14 l15 : AV} {st : List AV} {s : Mem} {a b z i n dp sp a0 a1 a2 a3 a4 a5 a6 : Int} {r0 r1 r2 r3 r4 : Nat}
theorem x102_0 : Ze d 102 0 [aR r, l1, l2] st s = Ze d 102 1 [aR r, l1, l2] (aR r :: st) s := Ze_n (i := (.aload_n 0)) (len := 1) (by decide +kernel) rfl
theorem x102_1 : Ze d 102 1 [l0, aR r, l2] st s = Ze d 102 2 [l0, aR r, l2] (aR r :: st) s := Ze_n (i := (.aload_n 1)) (len := 1) (by decide +kernel) rfl
theorem x102_2 (h : obC r = 3) : Ze d 102 2 [l0, l1, l2] (aR r :: st) s = Ze d 102 5 [l0, l1, l2] (aR (fcn r 1) :: st) s := Ze_gf (len := 3) (idx := 43) (by decide +kernel) rfl h rfl
theorem x102_5 (h : obC r = 5) (h6 : st.length ≤ 4) : Ze d 102 5 [l0, l1, l2] (aR r1 :: aR r :: st) s = zcV (Zc d 103 [aR r, aR r1] s) d 102 8 [l0, l1, l2] st := Ze_cvV (idx := 49) (len := 3) (as := [aR r1]) (by decide +kernel) rfl (by decide +kernel) rfl h h6
theorem x102_8 : Ze d 102 8 [aR r, l1, l2] st s = Ze d 102 9 [aR r, l1, l2] (aR r :: st) s := Ze_n (i := (.aload_n 0)) (len := 1) (by decide +kernel) rfl
theorem x102_9 : Ze d 102 9 [l0, aR r, l2] st s = Ze d 102 10 [l0, aR r, l2] (aR r :: st) s := Ze_n (i := (.aload_n 1)) (len := 1) (by decide +kernel) rfl
theorem x102_10 (h : obC r = 5) (h6 : st.length ≤ 4) : Ze d 102 10 [l0, l1, l2] (aR r1 :: aR r :: st) s = zcV (Zc d 104 [aR r, aR r1] s) d 102 13 [l0, l1, l2] st := Ze_cvV (idx := 53) (len := 3) (as := [aR r1]) (by decide +kernel) rfl (by decide +kernel) rfl h h6
theorem x102_13 : Ze d 102 13 [l0, l1, l2] st s = Ze d 102 14 [l0, l1, l2] (aI 0 :: st) s := Ze_n (i := (.iconst 0)) (len := 1) (by decide +kernel) rfl
theorem x102_14 : Ze d 102 14 [l0, l1, l2] (aI z :: st) s = Ze d 102 15 [l0, l1, aI z] st s := Ze_n (i := (.istore_n 2)) (len := 1) (by decide +kernel) rfl
theorem x102_15 : Ze d 102 15 [l0, l1, aI z] st s = Ze d 102 16 [l0, l1, aI z] (aI z :: st) s := Ze_n (i := (.iload_n 2)) (len := 1) (by decide +kernel) rfl
theorem x102_16 : Ze d 102 16 [aR r, l1, l2] st s = Ze d 102 17 [aR r, l1, l2] (aR r :: st) s := Ze_n (i := (.aload_n 0)) (len := 1) (by decide +kernel) rfl
theorem x102_17 (h : obC r = 5) : Ze d 102 17 [l0, l1, l2] (aR r :: st) s = Ze d 102 20 [l0, l1, l2] (aR (fcn r 0) :: st) s := Ze_gf (len := 3) (idx := 35) (by decide +kernel) rfl h rfl
theorem x102_20 (h : obC r = 10) : Ze d 102 20 [l0, l1, l2] (aR r :: st) s = Ze d 102 23 [l0, l1, l2] (aI (s r 4) :: st) s := Ze_gf (len := 3) (idx := 57) (by decide +kernel) rfl h rfl
theorem x102_23 : Ze d 102 23 [l0, l1, l2] (aI b :: aI a :: st) s = if a < b then Ze d 102 26 [l0, l1, l2] st s else Ze d 102 156 [l0, l1, l2] st s := Ze_b (i := (.if_icmp .ge 133)) (len := 3) (by decide +kernel) rfl
theorem x102_26 : Ze d 102 26 [aR r, l1, l2] st s = Ze d 102 27 [aR r, l1, l2] (aR r :: st) s := Ze_n (i := (.aload_n 0)) (len := 1) (by decide +kernel) rfl
theorem x102_27 (h : obC r = 5) : Ze d 102 27 [l0, l1, l2] (aR r :: st) s = Ze d 102 30 [l0, l1, l2] (aR (fcn r 0) :: st) s := Ze_gf (len := 3) (idx := 35) (by decide +kernel) rfl h rfl
theorem x102_30 (h : obC r = 10) : Ze d 102 30 [l0, l1, l2] (aR r :: st) s = Ze d 102 33 [l0, l1, l2] (aR (fcn r 0) :: st) s := Ze_gf (len := 3) (idx := 63) (by decide +kernel) rfl h rfl
theorem x102_33 : Ze d 102 33 [l0, l1, aI z] st s = Ze d 102 34 [l0, l1, aI z] (aI z :: st) s := Ze_n (i := (.iload_n 2)) (len := 1) (by decide +kernel) rfl
theorem x102_34 (h0 : 0 ≤ i) (h1 : i < aN1 r) : Ze d 102 34 [l0, l1, l2] (aI i :: aR r :: st) s = Ze d 102 35 [l0, l1, l2] (aI (s r i.toNat) :: st) s := Ze_n (i := .iaload) (len := 1) (by decide +kernel) (if_pos ⟨h0, h1⟩)
theorem x102_35 : Ze d 102 35 [l0, l1, l2] (aI a :: st) s = if a = 3 then Ze d 102 84 [l0, l1, l2] st s else if a = 58 then Ze d 102 135 [l0, l1, l2] st s else if a = 63 then Ze d 102 119 [l0, l1, l2] st s else if a = 78 then Ze d 102 93 [l0, l1, l2] st s else if a = 125 then Ze d 102 142 [l0, l1, l2] st s else Ze d 102 150 [l0, l1, l2] st s :=
  Ze_lk (dflt := 115) (ps := #[(3, 49), (58, 100), (63, 84), (78, 58), (125, 107)]) (len := 49) (ks := [(3, 84), (58, 135), (63, 119), (78, 93), (125, 142)]) (df := 150) (by decide +kernel) (by decide +kernel) (by decide +kernel)
theorem x102_84 : Ze d 102 84 [aR r, l1, l2] st s = Ze d 102 85 [aR r, l1, l2] (aR r :: st) s := Ze_n (i := (.aload_n 0)) (len := 1) (by decide +kernel) rfl
theorem x102_85 : Ze d 102 85 [l0, aR r, l2] st s = Ze d 102 86 [l0, aR r, l2] (aR r :: st) s := Ze_n (i := (.aload_n 1)) (len := 1) (by decide +kernel) rfl
theorem x102_86 : Ze d 102 86 [l0, l1, aI z] st s = Ze d 102 87 [l0, l1, aI z] (aI z :: st) s := Ze_n (i := (.iload_n 2)) (len := 1) (by decide +kernel) rfl
theorem x102_87 (h : obC r = 5) (h6 : st.length ≤ 4) : Ze d 102 87 [l0, l1, l2] (aI a2 :: aR r1 :: aR r :: st) s = zcV (Zc d 105 [aR r, aR r1, aI a2] s) d 102 90 [l0, l1, l2] st := Ze_cvV (idx := 66) (len := 3) (as := [aR r1, aI a2]) (by decide +kernel) rfl (by decide +kernel) rfl h h6
theorem x102_90 : Ze d 102 90 [l0, l1, l2] st s = Ze d 102 150 [l0, l1, l2] st s := Ze_n (i := (.goto 60)) (len := 3) (by decide +kernel) rfl
theorem x102_93 : Ze d 102 93 [l0, aR r, l2] st s = Ze d 102 94 [l0, aR r, l2] (aR r :: st) s := Ze_n (i := (.aload_n 1)) (len := 1) (by decide +kernel) rfl
theorem x102_94 (h : obC r = 3) : Ze d 102 94 [l0, l1, l2] (aR r :: st) s = Ze d 102 97 [l0, l1, l2] (aR (fcn r 7) :: st) s := Ze_gf (len := 3) (idx := 70) (by decide +kernel) rfl h rfl
theorem x102_97 : Ze d 102 97 [aR r, l1, l2] st s = Ze d 102 98 [aR r, l1, l2] (aR r :: st) s := Ze_n (i := (.aload_n 0)) (len := 1) (by decide +kernel) rfl
theorem x102_98 (h : obC r = 5) : Ze d 102 98 [l0, l1, l2] (aR r :: st) s = Ze d 102 101 [l0, l1, l2] (aR (fcn r 0) :: st) s := Ze_gf (len := 3) (idx := 35) (by decide +kernel) rfl h rfl
theorem x102_101 (h : obC r = 10) : Ze d 102 101 [l0, l1, l2] (aR r :: st) s = Ze d 102 104 [l0, l1, l2] (aR (fcn r 2) :: st) s := Ze_gf (len := 3) (idx := 73) (by decide +kernel) rfl h rfl
theorem x102_104 : Ze d 102 104 [l0, l1, aI z] st s = Ze d 102 105 [l0, l1, aI z] (aI z :: st) s := Ze_n (i := (.iload_n 2)) (len := 1) (by decide +kernel) rfl
theorem x102_105 (h0 : 0 ≤ i) (h1 : i < aN1 r) : Ze d 102 105 [l0, l1, l2] (aI i :: aR r :: st) s = Ze d 102 106 [l0, l1, l2] (aI (s r i.toNat) :: st) s := Ze_n (i := .iaload) (len := 1) (by decide +kernel) (if_pos ⟨h0, h1⟩)
theorem x102_106 : Ze d 102 106 [aR r, l1, l2] st s = Ze d 102 107 [aR r, l1, l2] (aR r :: st) s := Ze_n (i := (.aload_n 0)) (len := 1) (by decide +kernel) rfl
theorem x102_107 (h : obC r = 5) : Ze d 102 107 [l0, l1, l2] (aR r :: st) s = Ze d 102 110 [l0, l1, l2] (aR (fcn r 0) :: st) s := Ze_gf (len := 3) (idx := 35) (by decide +kernel) rfl h rfl
theorem x102_110 (h : obC r = 10) : Ze d 102 110 [l0, l1, l2] (aR r :: st) s = Ze d 102 113 [l0, l1, l2] (aR (fcn r 3) :: st) s := Ze_gf (len := 3) (idx := 76) (by decide +kernel) rfl h rfl
theorem x102_113 : Ze d 102 113 [l0, l1, aI z] st s = Ze d 102 114 [l0, l1, aI z] (aI z :: st) s := Ze_n (i := (.iload_n 2)) (len := 1) (by decide +kernel) rfl
theorem x102_114 (h0 : 0 ≤ i) (h1 : i < aN1 r) : Ze d 102 114 [l0, l1, l2] (aI i :: aR r :: st) s = Ze d 102 115 [l0, l1, l2] (aI (s r i.toNat) :: st) s := Ze_n (i := .iaload) (len := 1) (by decide +kernel) (if_pos ⟨h0, h1⟩)
theorem x102_115 (h0 : 0 ≤ i) (h1 : i < aN1 r) : Ze d 102 115 [l0, l1, l2] (aI z :: aI i :: aR r :: st) s = Ze d 102 116 [l0, l1, l2] st (mu s r i.toNat z) := Ze_n (i := .iastore) (len := 1) (by decide +kernel) (if_pos ⟨h0, h1⟩)
theorem x102_116 : Ze d 102 116 [l0, l1, l2] st s = Ze d 102 150 [l0, l1, l2] st s := Ze_n (i := (.goto 34)) (len := 3) (by decide +kernel) rfl
theorem x102_119 : Ze d 102 119 [aR r, l1, l2] st s = Ze d 102 120 [aR r, l1, l2] (aR r :: st) s := Ze_n (i := (.aload_n 0)) (len := 1) (by decide +kernel) rfl
theorem x102_120 : Ze d 102 120 [aR r, l1, l2] st s = Ze d 102 121 [aR r, l1, l2] (aR r :: st) s := Ze_n (i := (.aload_n 0)) (len := 1) (by decide +kernel) rfl
theorem x102_121 (h : obC r = 5) : Ze d 102 121 [l0, l1, l2] (aR r :: st) s = Ze d 102 124 [l0, l1, l2] (aR (fcn r 0) :: st) s := Ze_gf (len := 3) (idx := 35) (by decide +kernel) rfl h rfl
theorem x102_124 (h : obC r = 10) : Ze d 102 124 [l0, l1, l2] (aR r :: st) s = Ze d 102 127 [l0, l1, l2] (aR (fcn r 2) :: st) s := Ze_gf (len := 3) (idx := 73) (by decide +kernel) rfl h rfl
theorem x102_127 : Ze d 102 127 [l0, l1, aI z] st s = Ze d 102 128 [l0, l1, aI z] (aI z :: st) s := Ze_n (i := (.iload_n 2)) (len := 1) (by decide +kernel) rfl
theorem x102_128 (h0 : 0 ≤ i) (h1 : i < aN1 r) : Ze d 102 128 [l0, l1, l2] (aI i :: aR r :: st) s = Ze d 102 129 [l0, l1, l2] (aI (s r i.toNat) :: st) s := Ze_n (i := .iaload) (len := 1) (by decide +kernel) (if_pos ⟨h0, h1⟩)
theorem x102_129 (h : obC r = 5) (h6 : st.length ≤ 4) : Ze d 102 129 [l0, l1, l2] (aI a1 :: aR r :: st) s = zcV (Zc d 106 [aR r, aI a1] s) d 102 132 [l0, l1, l2] st := Ze_cvV (idx := 79) (len := 3) (as := [aI a1]) (by decide +kernel) rfl (by decide +kernel) rfl h h6
theorem x102_132 : Ze d 102 132 [l0, l1, l2] st s = Ze d 102 150 [l0, l1, l2] st s := Ze_n (i := (.goto 18)) (len := 3) (by decide +kernel) rfl
theorem x102_135 : Ze d 102 135 [aR r, l1, l2] st s = Ze d 102 136 [aR r, l1, l2] (aR r :: st) s := Ze_n (i := (.aload_n 0)) (len := 1) (by decide +kernel) rfl
theorem x102_136 (h : obC r = 5) (h6 : st.length ≤ 4) : Ze d 102 136 [l0, l1, l2] (aR r :: st) s = zcV (Zc d 107 [aR r] s) d 102 139 [l0, l1, l2] st := Ze_cvV (idx := 83) (len := 3) (as := []) (by decide +kernel) rfl (by decide +kernel) rfl h h6
theorem x102_139 : Ze d 102 139 [l0, l1, l2] st s = Ze d 102 150 [l0, l1, l2] st s := Ze_n (i := (.goto 11)) (len := 3) (by decide +kernel) rfl
theorem x102_142 : Ze d 102 142 [aR r, l1, l2] st s = Ze d 102 143 [aR r, l1, l2] (aR r :: st) s := Ze_n (i := (.aload_n 0)) (len := 1) (by decide +kernel) rfl
theorem x102_143 : Ze d 102 143 [l0, aR r, l2] st s = Ze d 102 144 [l0, aR r, l2] (aR r :: st) s := Ze_n (i := (.aload_n 1)) (len := 1) (by decide +kernel) rfl
theorem x102_144 (h : obC r = 5) (h6 : st.length ≤ 4) : Ze d 102 144 [l0, l1, l2] (aR r1 :: aR r :: st) s = zcV (Zc d 108 [aR r, aR r1] s) d 102 147 [l0, l1, l2] st := Ze_cvV (idx := 86) (len := 3) (as := [aR r1]) (by decide +kernel) rfl (by decide +kernel) rfl h h6
theorem x102_147 : Ze d 102 147 [l0, l1, l2] st s = Ze d 102 150 [l0, l1, l2] st s := Ze_n (i := (.goto 3)) (len := 3) (by decide +kernel) rfl
theorem x102_150 : Ze d 102 150 [l0, l1, aI z] st s = Ze d 102 153 [l0, l1, aI (wrap (z + 1))] st s := Ze_n (i := (.iinc 2 1)) (len := 3) (by decide +kernel) rfl
theorem x102_153 : Ze d 102 153 [l0, l1, l2] st s = Ze d 102 15 [l0, l1, l2] st s := Ze_n (i := (.goto (-138))) (len := 3) (by decide +kernel) rfl
theorem x102_156 : Ze d 102 156 [aR r, l1, l2] st s = Ze d 102 157 [aR r, l1, l2] (aR r :: st) s := Ze_n (i := (.aload_n 0)) (len := 1) (by decide +kernel) rfl
theorem x102_157 : Ze d 102 157 [l0, aR r, l2] st s = Ze d 102 158 [l0, aR r, l2] (aR r :: st) s := Ze_n (i := (.aload_n 1)) (len := 1) (by decide +kernel) rfl
theorem x102_158 (h : obC r = 5) (h6 : st.length ≤ 4) : Ze d 102 158 [l0, l1, l2] (aR r1 :: aR r :: st) s = zcV (Zc d 109 [aR r, aR r1] s) d 102 161 [l0, l1, l2] st := Ze_cvV (idx := 89) (len := 3) (as := [aR r1]) (by decide +kernel) rfl (by decide +kernel) rfl h h6
theorem x102_161 : Ze d 102 161 [l0, l1, l2] [] s = rV s := Ze_v (by decide +kernel) rfl
theorem en102 : Zc (d + 1) 102 [aR r, aR r1] s = Ze d 102 0 [aR r, aR r1, aU] [] s := rfl
theorem x103_0 : Ze d 103 0 [l0, l1, l2, l3, l4] st s = Ze d 103 1 [l0, l1, l2, l3, l4] (aI 0 :: st) s := Ze_n (i := (.iconst 0)) (len := 1) (by decide +kernel) rfl
theorem x103_1 : Ze d 103 1 [l0, l1, l2, l3, l4] (aI z :: st) s = Ze d 103 2 [l0, l1, aI z, l3, l4] st s := Ze_n (i := (.istore_n 2)) (len := 1) (by decide +kernel) rfl
theorem x103_2 : Ze d 103 2 [l0, l1, aI z, l3, l4] st s = Ze d 103 3 [l0, l1, aI z, l3, l4] (aI z :: st) s := Ze_n (i := (.iload_n 2)) (len := 1) (by decide +kernel) rfl
theorem x103_3 : Ze d 103 3 [l0, l1, l2, l3, l4] st s = Ze d 103 5 [l0, l1, l2, l3, l4] (aI 24 :: st) s := Ze_n (i := (.bipush 24)) (len := 2) (by decide +kernel) rfl
theorem x103_5 : Ze d 103 5 [l0, l1, l2, l3, l4] (aI b :: aI a :: st) s = if a < b then Ze d 103 8 [l0, l1, l2, l3, l4] st s else Ze d 103 23 [l0, l1, l2, l3, l4] st s := Ze_b (i := (.if_icmp .ge 18)) (len := 3) (by decide +kernel) rfl
theorem x103_8 : Ze d 103 8 [aR r, l1, l2, l3, l4] st s = Ze d 103 9 [aR r, l1, l2, l3, l4] (aR r :: st) s := Ze_n (i := (.aload_n 0)) (len := 1) (by decide +kernel) rfl
theorem x103_9 (h : obC r = 5) : Ze d 103 9 [l0, l1, l2, l3, l4] (aR r :: st) s = Ze d 103 12 [l0, l1, l2, l3, l4] (aR (fcn r 2) :: st) s := Ze_gf (len := 3) (idx := 9) (by decide +kernel) rfl h rfl
theorem x103_12 : Ze d 103 12 [l0, l1, aI z, l3, l4] st s = Ze d 103 13 [l0, l1, aI z, l3, l4] (aI z :: st) s := Ze_n (i := (.iload_n 2)) (len := 1) (by decide +kernel) rfl
theorem x103_13 : Ze d 103 13 [l0, l1, l2, l3, l4] st s = Ze d 103 14 [l0, l1, l2, l3, l4] (aI 1 :: st) s := Ze_n (i := (.iconst 1)) (len := 1) (by decide +kernel) rfl
theorem x103_14 : Ze d 103 14 [l0, l1, aI z, l3, l4] st s = Ze d 103 15 [l0, l1, aI z, l3, l4] (aI z :: st) s := Ze_n (i := (.iload_n 2)) (len := 1) (by decide +kernel) rfl
theorem x103_15 : Ze d 103 15 [l0, l1, l2, l3, l4] (aI b :: aI a :: st) s = Ze d 103 16 [l0, l1, l2, l3, l4] (aI (ishl a b) :: st) s := Ze_n (i := .ishl) (len := 1) (by decide +kernel) rfl
theorem x103_16 (h0 : 0 ≤ i) (h1 : i < aN1 r) : Ze d 103 16 [l0, l1, l2, l3, l4] (aI z :: aI i :: aR r :: st) s = Ze d 103 17 [l0, l1, l2, l3, l4] st (mu s r i.toNat z) := Ze_n (i := .iastore) (len := 1) (by decide +kernel) (if_pos ⟨h0, h1⟩)
theorem x103_17 : Ze d 103 17 [l0, l1, aI z, l3, l4] st s = Ze d 103 20 [l0, l1, aI (wrap (z + 1)), l3, l4] st s := Ze_n (i := (.iinc 2 1)) (len := 3) (by decide +kernel) rfl
theorem x103_20 : Ze d 103 20 [l0, l1, l2, l3, l4] st s = Ze d 103 2 [l0, l1, l2, l3, l4] st s := Ze_n (i := (.goto (-18))) (len := 3) (by decide +kernel) rfl
theorem x103_23 : Ze d 103 23 [aR r, l1, l2, l3, l4] st s = Ze d 103 24 [aR r, l1, l2, l3, l4] (aR r :: st) s := Ze_n (i := (.aload_n 0)) (len := 1) (by decide +kernel) rfl
theorem x103_24 (h : obC r = 5) : Ze d 103 24 [l0, l1, l2, l3, l4] (aR r :: st) s = Ze d 103 27 [l0, l1, l2, l3, l4] (aR (fcn r 2) :: st) s := Ze_gf (len := 3) (idx := 9) (by decide +kernel) rfl h rfl
theorem x103_27 : Ze d 103 27 [l0, l1, l2, l3, l4] st s = Ze d 103 29 [l0, l1, l2, l3, l4] (aI 24 :: st) s := Ze_n (i := (.bipush 24)) (len := 2) (by decide +kernel) rfl
theorem x103_29 : Ze d 103 29 [l0, l1, l2, l3, l4] st s = Ze d 103 31 [l0, l1, l2, l3, l4] (aI 16777216 :: st) s := Ze_n (i := (.ldc 92)) (len := 2) (by decide +kernel) rfl
theorem x103_31 (h0 : 0 ≤ i) (h1 : i < aN1 r) : Ze d 103 31 [l0, l1, l2, l3, l4] (aI z :: aI i :: aR r :: st) s = Ze d 103 32 [l0, l1, l2, l3, l4] st (mu s r i.toNat z) := Ze_n (i := .iastore) (len := 1) (by decide +kernel) (if_pos ⟨h0, h1⟩)
theorem x103_32 : Ze d 103 32 [l0, l1, l2, l3, l4] st s = Ze d 103 34 [l0, l1, l2, l3, l4] (aI 25 :: st) s := Ze_n (i := (.bipush 25)) (len := 2) (by decide +kernel) rfl
theorem x103_34 : Ze d 103 34 [l0, l1, l2, l3, l4] (aI z :: st) s = Ze d 103 35 [l0, l1, aI z, l3, l4] st s := Ze_n (i := (.istore_n 2)) (len := 1) (by decide +kernel) rfl
theorem x103_35 : Ze d 103 35 [l0, l1, aI z, l3, l4] st s = Ze d 103 36 [l0, l1, aI z, l3, l4] (aI z :: st) s := Ze_n (i := (.iload_n 2)) (len := 1) (by decide +kernel) rfl
theorem x103_36 : Ze d 103 36 [l0, aR r, l2, l3, l4] st s = Ze d 103 37 [l0, aR r, l2, l3, l4] (aR r :: st) s := Ze_n (i := (.aload_n 1)) (len := 1) (by decide +kernel) rfl
theorem x103_37 (h : obC r = 6) : Ze d 103 37 [l0, l1, l2, l3, l4] (aR r :: st) s = Ze d 103 40 [l0, l1, l2, l3, l4] (aI (s r 7) :: st) s := Ze_gf (len := 3) (idx := 93) (by decide +kernel) rfl h rfl
theorem x103_40 : Ze d 103 40 [l0, l1, l2, l3, l4] (aI b :: aI a :: st) s = if a < b then Ze d 103 43 [l0, l1, l2, l3, l4] st s else Ze d 103 165 [l0, l1, l2, l3, l4] st s := Ze_b (i := (.if_icmp .ge 125)) (len := 3) (by decide +kernel) rfl
theorem x103_43 : Ze d 103 43 [l0, aR r, l2, l3, l4] st s = Ze d 103 44 [l0, aR r, l2, l3, l4] (aR r :: st) s := Ze_n (i := (.aload_n 1)) (len := 1) (by decide +kernel) rfl
theorem x103_44 (h : obC r = 6) : Ze d 103 44 [l0, l1, l2, l3, l4] (aR r :: st) s = Ze d 103 47 [l0, l1, l2, l3, l4] (aR (fcn r 0) :: st) s := Ze_gf (len := 3) (idx := 96) (by decide +kernel) rfl h rfl
theorem x103_47 : Ze d 103 47 [l0, l1, aI z, l3, l4] st s = Ze d 103 48 [l0, l1, aI z, l3, l4] (aI z :: st) s := Ze_n (i := (.iload_n 2)) (len := 1) (by decide +kernel) rfl
theorem x103_48 (h0 : 0 ≤ i) (h1 : i < aN1 r) : Ze d 103 48 [l0, l1, l2, l3, l4] (aI i :: aR r :: st) s = Ze d 103 49 [l0, l1, l2, l3, l4] (aI (s r i.toNat) :: st) s := Ze_n (i := .iaload) (len := 1) (by decide +kernel) (if_pos ⟨h0, h1⟩)
theorem x103_49 (h6 : st.length ≤ 4) : Ze d 103 49 [l0, l1, l2, l3, l4] (aI a0 :: st) s = zcI (Zc d 116 [aI a0] s) d 103 52 [l0, l1, l2, l3, l4] st := Ze_csI (idx := 99) (len := 3) (as := [aI a0]) (by decide +kernel) rfl rfl (by decide +kernel) rfl h6
theorem x103_52 : Ze d 103 52 [l0, l1, l2, l3, l4] (aI z :: st) s = Ze d 103 53 [l0, l1, l2, aI z, l4] st s := Ze_n (i := (.istore_n 3)) (len := 1) (by decide +kernel) rfl
theorem x103_53 : Ze d 103 53 [l0, aR r, l2, l3, l4] st s = Ze d 103 54 [l0, aR r, l2, l3, l4] (aR r :: st) s := Ze_n (i := (.aload_n 1)) (len := 1) (by decide +kernel) rfl
theorem x103_54 (h : obC r = 6) : Ze d 103 54 [l0, l1, l2, l3, l4] (aR r :: st) s = Ze d 103 57 [l0, l1, l2, l3, l4] (aR (fcn r 0) :: st) s := Ze_gf (len := 3) (idx := 96) (by decide +kernel) rfl h rfl
theorem x103_57 : Ze d 103 57 [l0, l1, aI z, l3, l4] st s = Ze d 103 58 [l0, l1, aI z, l3, l4] (aI z :: st) s := Ze_n (i := (.iload_n 2)) (len := 1) (by decide +kernel) rfl
theorem x103_58 (h0 : 0 ≤ i) (h1 : i < aN1 r) : Ze d 103 58 [l0, l1, l2, l3, l4] (aI i :: aR r :: st) s = Ze d 103 59 [l0, l1, l2, l3, l4] (aI (s r i.toNat) :: st) s := Ze_n (i := .iaload) (len := 1) (by decide +kernel) (if_pos ⟨h0, h1⟩)
theorem x103_59 : Ze d 103 59 [l0, l1, l2, l3, l4] st s = Ze d 103 60 [l0, l1, l2, l3, l4] (aI 5 :: st) s := Ze_n (i := (.iconst 5)) (len := 1) (by decide +kernel) rfl
theorem x103_60 : Ze d 103 60 [l0, l1, l2, l3, l4] (aI b :: aI a :: st) s = if a = b then Ze d 103 63 [l0, l1, l2, l3, l4] st s else Ze d 103 74 [l0, l1, l2, l3, l4] st s := Ze_b (i := (.if_icmp .ne 14)) (len := 3) (by decide +kernel) rfl
theorem x103_63 : Ze d 103 63 [l0, l1, l2, l3, l4] st s = Ze d 103 64 [l0, l1, l2, l3, l4] (aI 1 :: st) s := Ze_n (i := (.iconst 1)) (len := 1) (by decide +kernel) rfl
theorem x103_64 : Ze d 103 64 [l0, aR r, l2, l3, l4] st s = Ze d 103 65 [l0, aR r, l2, l3, l4] (aR r :: st) s := Ze_n (i := (.aload_n 1)) (len := 1) (by decide +kernel) rfl
theorem x103_65 (h : obC r = 6) : Ze d 103 65 [l0, l1, l2, l3, l4] (aR r :: st) s = Ze d 103 68 [l0, l1, l2, l3, l4] (aR (fcn r 1) :: st) s := Ze_gf (len := 3) (idx := 103) (by decide +kernel) rfl h rfl
theorem x103_68 : Ze d 103 68 [l0, l1, aI z, l3, l4] st s = Ze d 103 69 [l0, l1, aI z, l3, l4] (aI z :: st) s := Ze_n (i := (.iload_n 2)) (len := 1) (by decide +kernel) rfl
theorem x103_69 (h0 : 0 ≤ i) (h1 : i < aN1 r) : Ze d 103 69 [l0, l1, l2, l3, l4] (aI i :: aR r :: st) s = Ze d 103 70 [l0, l1, l2, l3, l4] (aI (s r i.toNat) :: st) s := Ze_n (i := .iaload) (len := 1) (by decide +kernel) (if_pos ⟨h0, h1⟩)
theorem x103_70 : Ze d 103 70 [l0, l1, l2, l3, l4] (aI b :: aI a :: st) s = Ze d 103 71 [l0, l1, l2, l3, l4] (aI (ishl a b) :: st) s := Ze_n (i := .ishl) (len := 1) (by decide +kernel) rfl
theorem x103_71 : Ze d 103 71 [l0, l1, l2, l3, l4] st s = Ze d 103 75 [l0, l1, l2, l3, l4] st s := Ze_n (i := (.goto 4)) (len := 3) (by decide +kernel) rfl
theorem x103_74 : Ze d 103 74 [l0, l1, l2, l3, l4] st s = Ze d 103 75 [l0, l1, l2, l3, l4] (aI 0 :: st) s := Ze_n (i := (.iconst 0)) (len := 1) (by decide +kernel) rfl
theorem x103_75 : Ze d 103 75 [l0, l1, l2, l3, l4] (aI z :: st) s = Ze d 103 77 [l0, l1, l2, l3, aI z] st s := Ze_n (i := (.istore 4)) (len := 2) (by decide +kernel) rfl
theorem x103_77 : Ze d 103 77 [l0, l1, l2, l3, aI z] st s = Ze d 103 79 [l0, l1, l2, l3, aI z] (aI z :: st) s := Ze_n (i := (.iload 4)) (len := 2) (by decide +kernel) rfl
theorem x103_79 : Ze d 103 79 [l0, l1, l2, aI z, l4] st s = Ze d 103 80 [l0, l1, l2, aI z, l4] (aI z :: st) s := Ze_n (i := (.iload_n 3)) (len := 1) (by decide +kernel) rfl
theorem x103_80 : Ze d 103 80 [l0, l1, l2, l3, l4] (aI a :: st) s = if 0 < a then Ze d 103 83 [l0, l1, l2, l3, l4] st s else Ze d 103 97 [l0, l1, l2, l3, l4] st s := Ze_b (i := (.ifCond .le 17)) (len := 3) (by decide +kernel) rfl
theorem x103_83 : Ze d 103 83 [aR r, l1, l2, l3, l4] st s = Ze d 103 84 [aR r, l1, l2, l3, l4] (aR r :: st) s := Ze_n (i := (.aload_n 0)) (len := 1) (by decide +kernel) rfl
theorem x103_84 (h : obC r = 5) : Ze d 103 84 [l0, l1, l2, l3, l4] (aR r :: st) s = Ze d 103 87 [l0, l1, l2, l3, l4] (aR (fcn r 2) :: st) s := Ze_gf (len := 3) (idx := 9) (by decide +kernel) rfl h rfl
theorem x103_87 : Ze d 103 87 [l0, aR r, l2, l3, l4] st s = Ze d 103 88 [l0, aR r, l2, l3, l4] (aR r :: st) s := Ze_n (i := (.aload_n 1)) (len := 1) (by decide +kernel) rfl
theorem x103_88 (h : obC r = 6) : Ze d 103 88 [l0, l1, l2, l3, l4] (aR r :: st) s = Ze d 103 91 [l0, l1, l2, l3, l4] (aR (fcn r 1) :: st) s := Ze_gf (len := 3) (idx := 103) (by decide +kernel) rfl h rfl
theorem x103_91 : Ze d 103 91 [l0, l1, aI z, l3, l4] st s = Ze d 103 92 [l0, l1, aI z, l3, l4] (aI z :: st) s := Ze_n (i := (.iload_n 2)) (len := 1) (by decide +kernel) rfl
theorem x103_92 (h0 : 0 ≤ i) (h1 : i < aN1 r) : Ze d 103 92 [l0, l1, l2, l3, l4] (aI i :: aR r :: st) s = Ze d 103 93 [l0, l1, l2, l3, l4] (aI (s r i.toNat) :: st) s := Ze_n (i := .iaload) (len := 1) (by decide +kernel) (if_pos ⟨h0, h1⟩)
theorem x103_93 (h0 : 0 ≤ i) (h1 : i < aN1 r) : Ze d 103 93 [l0, l1, l2, l3, l4] (aI i :: aR r :: st) s = Ze d 103 94 [l0, l1, l2, l3, l4] (aI (s r i.toNat) :: st) s := Ze_n (i := .iaload) (len := 1) (by decide +kernel) (if_pos ⟨h0, h1⟩)
theorem x103_94 : Ze d 103 94 [l0, l1, l2, l3, l4] st s = Ze d 103 98 [l0, l1, l2, l3, l4] st s := Ze_n (i := (.goto 4)) (len := 3) (by decide +kernel) rfl
theorem x103_97 : Ze d 103 97 [l0, l1, l2, l3, l4] st s = Ze d 103 98 [l0, l1, l2, l3, l4] (aI 0 :: st) s := Ze_n (i := (.iconst 0)) (len := 1) (by decide +kernel) rfl
theorem x103_98 : Ze d 103 98 [l0, l1, l2, l3, l4] (aI b :: aI a :: st) s = Ze d 103 99 [l0, l1, l2, l3, l4] (aI (ior a b) :: st) s := Ze_n (i := .ior) (len := 1) (by decide +kernel) rfl
theorem x103_99 : Ze d 103 99 [l0, l1, l2, l3, l4] (aI z :: st) s = Ze d 103 101 [l0, l1, l2, l3, aI z] st s := Ze_n (i := (.istore 4)) (len := 2) (by decide +kernel) rfl
theorem x103_101 : Ze d 103 101 [l0, l1, l2, l3, aI z] st s = Ze d 103 103 [l0, l1, l2, l3, aI z] (aI z :: st) s := Ze_n (i := (.iload 4)) (len := 2) (by decide +kernel) rfl
theorem x103_103 : Ze d 103 103 [l0, l1, l2, aI z, l4] st s = Ze d 103 104 [l0, l1, l2, aI z, l4] (aI z :: st) s := Ze_n (i := (.iload_n 3)) (len := 1) (by decide +kernel) rfl
theorem x103_104 : Ze d 103 104 [l0, l1, l2, l3, l4] st s = Ze d 103 105 [l0, l1, l2, l3, l4] (aI 1 :: st) s := Ze_n (i := (.iconst 1)) (len := 1) (by decide +kernel) rfl
theorem x103_105 : Ze d 103 105 [l0, l1, l2, l3, l4] (aI b :: aI a :: st) s = if b < a then Ze d 103 108 [l0, l1, l2, l3, l4] st s else Ze d 103 122 [l0, l1, l2, l3, l4] st s := Ze_b (i := (.if_icmp .le 17)) (len := 3) (by decide +kernel) rfl
theorem x103_108 : Ze d 103 108 [aR r, l1, l2, l3, l4] st s = Ze d 103 109 [aR r, l1, l2, l3, l4] (aR r :: st) s := Ze_n (i := (.aload_n 0)) (len := 1) (by decide +kernel) rfl
theorem x103_109 (h : obC r = 5) : Ze d 103 109 [l0, l1, l2, l3, l4] (aR r :: st) s = Ze d 103 112 [l0, l1, l2, l3, l4] (aR (fcn r 2) :: st) s := Ze_gf (len := 3) (idx := 9) (by decide +kernel) rfl h rfl
theorem x103_112 : Ze d 103 112 [l0, aR r, l2, l3, l4] st s = Ze d 103 113 [l0, aR r, l2, l3, l4] (aR r :: st) s := Ze_n (i := (.aload_n 1)) (len := 1) (by decide +kernel) rfl
theorem x103_113 (h : obC r = 6) : Ze d 103 113 [l0, l1, l2, l3, l4] (aR r :: st) s = Ze d 103 116 [l0, l1, l2, l3, l4] (aR (fcn r 2) :: st) s := Ze_gf (len := 3) (idx := 104) (by decide +kernel) rfl h rfl
theorem x103_116 : Ze d 103 116 [l0, l1, aI z, l3, l4] st s = Ze d 103 117 [l0, l1, aI z, l3, l4] (aI z :: st) s := Ze_n (i := (.iload_n 2)) (len := 1) (by decide +kernel) rfl
theorem x103_117 (h0 : 0 ≤ i) (h1 : i < aN1 r) : Ze d 103 117 [l0, l1, l2, l3, l4] (aI i :: aR r :: st) s = Ze d 103 118 [l0, l1, l2, l3, l4] (aI (s r i.toNat) :: st) s := Ze_n (i := .iaload) (len := 1) (by decide +kernel) (if_pos ⟨h0, h1⟩)
theorem x103_118 (h0 : 0 ≤ i) (h1 : i < aN1 r) : Ze d 103 118 [l0, l1, l2, l3, l4] (aI i :: aR r :: st) s = Ze d 103 119 [l0, l1, l2, l3, l4] (aI (s r i.toNat) :: st) s := Ze_n (i := .iaload) (len := 1) (by decide +kernel) (if_pos ⟨h0, h1⟩)
theorem x103_119 : Ze d 103 119 [l0, l1, l2, l3, l4] st s = Ze d 103 123 [l0, l1, l2, l3, l4] st s := Ze_n (i := (.goto 4)) (len := 3) (by decide +kernel) rfl
theorem x103_122 : Ze d 103 122 [l0, l1, l2, l3, l4] st s = Ze d 103 123 [l0, l1, l2, l3, l4] (aI 0 :: st) s := Ze_n (i := (.iconst 0)) (len := 1) (by decide +kernel) rfl
theorem x103_123 : Ze d 103 123 [l0, l1, l2, l3, l4] (aI b :: aI a :: st) s = Ze d 103 124 [l0, l1, l2, l3, l4] (aI (ior a b) :: st) s := Ze_n (i := .ior) (len := 1) (by decide +kernel) rfl
theorem x103_124 : Ze d 103 124 [l0, l1, l2, l3, l4] (aI z :: st) s = Ze d 103 126 [l0, l1, l2, l3, aI z] st s := Ze_n (i := (.istore 4)) (len := 2) (by decide +kernel) rfl
theorem x103_126 : Ze d 103 126 [l0, l1, l2, l3, aI z] st s = Ze d 103 128 [l0, l1, l2, l3, aI z] (aI z :: st) s := Ze_n (i := (.iload 4)) (len := 2) (by decide +kernel) rfl
theorem x103_128 : Ze d 103 128 [l0, l1, l2, aI z, l4] st s = Ze d 103 129 [l0, l1, l2, aI z, l4] (aI z :: st) s := Ze_n (i := (.iload_n 3)) (len := 1) (by decide +kernel) rfl
theorem x103_129 : Ze d 103 129 [l0, l1, l2, l3, l4] st s = Ze d 103 130 [l0, l1, l2, l3, l4] (aI 2 :: st) s := Ze_n (i := (.iconst 2)) (len := 1) (by decide +kernel) rfl
theorem x103_130 : Ze d 103 130 [l0, l1, l2, l3, l4] (aI b :: aI a :: st) s = if b < a then Ze d 103 133 [l0, l1, l2, l3, l4] st s else Ze d 103 147 [l0, l1, l2, l3, l4] st s := Ze_b (i := (.if_icmp .le 17)) (len := 3) (by decide +kernel) rfl
theorem x103_133 : Ze d 103 133 [aR r, l1, l2, l3, l4] st s = Ze d 103 134 [aR r, l1, l2, l3, l4] (aR r :: st) s := Ze_n (i := (.aload_n 0)) (len := 1) (by decide +kernel) rfl
theorem x103_134 (h : obC r = 5) : Ze d 103 134 [l0, l1, l2, l3, l4] (aR r :: st) s = Ze d 103 137 [l0, l1, l2, l3, l4] (aR (fcn r 2) :: st) s := Ze_gf (len := 3) (idx := 9) (by decide +kernel) rfl h rfl
theorem x103_137 : Ze d 103 137 [l0, aR r, l2, l3, l4] st s = Ze d 103 138 [l0, aR r, l2, l3, l4] (aR r :: st) s := Ze_n (i := (.aload_n 1)) (len := 1) (by decide +kernel) rfl
theorem x103_138 (h : obC r = 6) : Ze d 103 138 [l0, l1, l2, l3, l4] (aR r :: st) s = Ze d 103 141 [l0, l1, l2, l3, l4] (aR (fcn r 3) :: st) s := Ze_gf (len := 3) (idx := 107) (by decide +kernel) rfl h rfl
theorem x103_141 : Ze d 103 141 [l0, l1, aI z, l3, l4] st s = Ze d 103 142 [l0, l1, aI z, l3, l4] (aI z :: st) s := Ze_n (i := (.iload_n 2)) (len := 1) (by decide +kernel) rfl
theorem x103_142 (h0 : 0 ≤ i) (h1 : i < aN1 r) : Ze d 103 142 [l0, l1, l2, l3, l4] (aI i :: aR r :: st) s = Ze d 103 143 [l0, l1, l2, l3, l4] (aI (s r i.toNat) :: st) s := Ze_n (i := .iaload) (len := 1) (by decide +kernel) (if_pos ⟨h0, h1⟩)
theorem x103_143 (h0 : 0 ≤ i) (h1 : i < aN1 r) : Ze d 103 143 [l0, l1, l2, l3, l4] (aI i :: aR r :: st) s = Ze d 103 144 [l0, l1, l2, l3, l4] (aI (s r i.toNat) :: st) s := Ze_n (i := .iaload) (len := 1) (by decide +kernel) (if_pos ⟨h0, h1⟩)
theorem x103_144 : Ze d 103 144 [l0, l1, l2, l3, l4] st s = Ze d 103 148 [l0, l1, l2, l3, l4] st s := Ze_n (i := (.goto 4)) (len := 3) (by decide +kernel) rfl
theorem x103_147 : Ze d 103 147 [l0, l1, l2, l3, l4] st s = Ze d 103 148 [l0, l1, l2, l3, l4] (aI 0 :: st) s := Ze_n (i := (.iconst 0)) (len := 1) (by decide +kernel) rfl
theorem x103_148 : Ze d 103 148 [l0, l1, l2, l3, l4] (aI b :: aI a :: st) s = Ze d 103 149 [l0, l1, l2, l3, l4] (aI (ior a b) :: st) s := Ze_n (i := .ior) (len := 1) (by decide +kernel) rfl
theorem x103_149 : Ze d 103 149 [l0, l1, l2, l3, l4] (aI z :: st) s = Ze d 103 151 [l0, l1, l2, l3, aI z] st s := Ze_n (i := (.istore 4)) (len := 2) (by decide +kernel) rfl
theorem x103_151 : Ze d 103 151 [aR r, l1, l2, l3, l4] st s = Ze d 103 152 [aR r, l1, l2, l3, l4] (aR r :: st) s := Ze_n (i := (.aload_n 0)) (len := 1) (by decide +kernel) rfl
theorem x103_152 (h : obC r = 5) : Ze d 103 152 [l0, l1, l2, l3, l4] (aR r :: st) s = Ze d 103 155 [l0, l1, l2, l3, l4] (aR (fcn r 2) :: st) s := Ze_gf (len := 3) (idx := 9) (by decide +kernel) rfl h rfl
theorem x103_155 : Ze d 103 155 [l0, l1, aI z, l3, l4] st s = Ze d 103 156 [l0, l1, aI z, l3, l4] (aI z :: st) s := Ze_n (i := (.iload_n 2)) (len := 1) (by decide +kernel) rfl
theorem x103_156 : Ze d 103 156 [l0, l1, l2, l3, aI z] st s = Ze d 103 158 [l0, l1, l2, l3, aI z] (aI z :: st) s := Ze_n (i := (.iload 4)) (len := 2) (by decide +kernel) rfl
theorem x103_158 (h0 : 0 ≤ i) (h1 : i < aN1 r) : Ze d 103 158 [l0, l1, l2, l3, l4] (aI z :: aI i :: aR r :: st) s = Ze d 103 159 [l0, l1, l2, l3, l4] st (mu s r i.toNat z) := Ze_n (i := .iastore) (len := 1) (by decide +kernel) (if_pos ⟨h0, h1⟩)
theorem x103_159 : Ze d 103 159 [l0, l1, aI z, l3, l4] st s = Ze d 103 162 [l0, l1, aI (wrap (z + 1)), l3, l4] st s := Ze_n (i := (.iinc 2 1)) (len := 3) (by decide +kernel) rfl
theorem x103_162 : Ze d 103 162 [l0, l1, l2, l3, l4] st s = Ze d 103 35 [l0, l1, l2, l3, l4] st s := Ze_n (i := (.goto (-127))) (len := 3) (by decide +kernel) rfl
theorem x103_165 : Ze d 103 165 [l0, l1, l2, l3, l4] [] s = rV s := Ze_v (by decide +kernel) rfl
theorem en103 : Zc (d + 1) 103 [aR r, aR r1] s = Ze d 103 0 [aR r, aR r1, aU, aU, aU] [] s := rfl
theorem x104_0 : Ze d 104 0 [aR r, l1, l2, l3] st s = Ze d 104 1 [aR r, l1, l2, l3] (aR r :: st) s := Ze_n (i := (.aload_n 0)) (len := 1) (by decide +kernel) rfl
theorem x104_1 : Ze d 104 1 [l0, l1, l2, l3] st s = Ze d 104 2 [l0, l1, l2, l3] (aI 0 :: st) s := Ze_n (i := (.iconst 0)) (len := 1) (by decide +kernel) rfl
theorem x104_2 (h : obC r = 5) : Ze d 104 2 [l0, l1, l2, l3] (aI z :: aR r :: st) s = Ze d 104 5 [l0, l1, l2, l3] st (mu s r 9 z) := Ze_n (i := .putfield 108) (len := 3) (by decide +kernel) (if_pos h)
theorem x104_5 : Ze d 104 5 [aR r, l1, l2, l3] st s = Ze d 104 6 [aR r, l1, l2, l3] (aR r :: st) s := Ze_n (i := (.aload_n 0)) (len := 1) (by decide +kernel) rfl
theorem x104_6 : Ze d 104 6 [l0, l1, l2, l3] st s = Ze d 104 7 [l0, l1, l2, l3] (aI 0 :: st) s := Ze_n (i := (.iconst 0)) (len := 1) (by decide +kernel) rfl
theorem x104_7 (h : obC r = 5) : Ze d 104 7 [l0, l1, l2, l3] (aI z :: aR r :: st) s = Ze d 104 10 [l0, l1, l2, l3] st (mu s r 10 z) := Ze_n (i := .putfield 111) (len := 3) (by decide +kernel) (if_pos h)
theorem x104_10 : Ze d 104 10 [l0, aR r, l2, l3] st s = Ze d 104 11 [l0, aR r, l2, l3] (aR r :: st) s := Ze_n (i := (.aload_n 1)) (len := 1) (by decide +kernel) rfl
theorem x104_11 : Ze d 104 11 [l0, l1, l2, l3] st s = Ze d 104 12 [l0, l1, l2, l3] (aI 0 :: st) s := Ze_n (i := (.iconst 0)) (len := 1) (by decide +kernel) rfl
theorem x104_12 (h : obC r = 3) : Ze d 104 12 [l0, l1, l2, l3] (aI z :: aR r :: st) s = Ze d 104 15 [l0, l1, l2, l3] st (mu s r 6 z) := Ze_n (i := .putfield 114) (len := 3) (by decide +kernel) (if_pos h)
theorem x104_15 : Ze d 104 15 [l0, l1, l2, l3] st s = Ze d 104 16 [l0, l1, l2, l3] (aI 0 :: st) s := Ze_n (i := (.iconst 0)) (len := 1) (by decide +kernel) rfl
theorem x104_16 : Ze d 104 16 [l0, l1, l2, l3] (aI z :: st) s = Ze d 104 17 [l0, l1, aI z, l3] st s := Ze_n (i := (.istore_n 2)) (len := 1) (by decide +kernel) rfl
theorem x104_17 : Ze d 104 17 [l0, l1, aI z, l3] st s = Ze d 104 18 [l0, l1, aI z, l3] (aI z :: st) s := Ze_n (i := (.iload_n 2)) (len := 1) (by decide +kernel) rfl
theorem x104_18 : Ze d 104 18 [l0, l1, l2, l3] st s = Ze d 104 20 [l0, l1, l2, l3] (aI 24 :: st) s := Ze_n (i := (.bipush 24)) (len := 2) (by decide +kernel) rfl
theorem x104_20 : Ze d 104 20 [l0, l1, l2, l3] (aI b :: aI a :: st) s = if a < b then Ze d 104 23 [l0, l1, l2, l3] st s else Ze d 104 75 [l0, l1, l2, l3] st s := Ze_b (i := (.if_icmp .ge 55)) (len := 3) (by decide +kernel) rfl
theorem x104_23 : Ze d 104 23 [l0, l1, aI z, l3] st s = Ze d 104 24 [l0, l1, aI z, l3] (aI z :: st) s := Ze_n (i := (.iload_n 2)) (len := 1) (by decide +kernel) rfl
theorem x104_24 : Ze d 104 24 [l0, aR r, l2, l3] st s = Ze d 104 25 [l0, aR r, l2, l3] (aR r :: st) s := Ze_n (i := (.aload_n 1)) (len := 1) (by decide +kernel) rfl
theorem x104_25 (h : obC r = 3) : Ze d 104 25 [l0, l1, l2, l3] (aR r :: st) s = Ze d 104 28 [l0, l1, l2, l3] (aR (fcn r 0) :: st) s := Ze_gf (len := 3) (idx := 117) (by decide +kernel) rfl h rfl
theorem x104_28 (h : obC r = 8) : Ze d 104 28 [l0, l1, l2, l3] (aR r :: st) s = Ze d 104 31 [l0, l1, l2, l3] (aI (s r 6) :: st) s := Ze_gf (len := 3) (idx := 121) (by decide +kernel) rfl h rfl
theorem x104_31 : Ze d 104 31 [l0, l1, l2, l3] (aI b :: aI a :: st) s = if a < b then Ze d 104 34 [l0, l1, l2, l3] st s else Ze d 104 51 [l0, l1, l2, l3] st s := Ze_b (i := (.if_icmp .ge 20)) (len := 3) (by decide +kernel) rfl
theorem x104_34 : Ze d 104 34 [l0, aR r, l2, l3] st s = Ze d 104 35 [l0, aR r, l2, l3] (aR r :: st) s := Ze_n (i := (.aload_n 1)) (len := 1) (by decide +kernel) rfl
theorem x104_35 (h : obC r = 3) : Ze d 104 35 [l0, l1, l2, l3] (aR r :: st) s = Ze d 104 38 [l0, l1, l2, l3] (aR (fcn r 0) :: st) s := Ze_gf (len := 3) (idx := 117) (by decide +kernel) rfl h rfl
theorem x104_38 (h : obC r = 8) : Ze d 104 38 [l0, l1, l2, l3] (aR r :: st) s = Ze d 104 41 [l0, l1, l2, l3] (aR (fcn r 0) :: st) s := Ze_gf (len := 3) (idx := 124) (by decide +kernel) rfl h rfl
theorem x104_41 : Ze d 104 41 [l0, l1, aI z, l3] st s = Ze d 104 42 [l0, l1, aI z, l3] (aI z :: st) s := Ze_n (i := (.iload_n 2)) (len := 1) (by decide +kernel) rfl
theorem x104_42 (h0 : 0 ≤ i) (h1 : i < aN1 r) : Ze d 104 42 [l0, l1, l2, l3] (aI i :: aR r :: st) s = Ze d 104 43 [l0, l1, l2, l3] (aI (s r i.toNat) :: st) s := Ze_n (i := .iaload) (len := 1) (by decide +kernel) (if_pos ⟨h0, h1⟩)
theorem x104_43 : Ze d 104 43 [l0, l1, l2, l3] st s = Ze d 104 44 [l0, l1, l2, l3] (aI 3 :: st) s := Ze_n (i := (.iconst 3)) (len := 1) (by decide +kernel) rfl
theorem x104_44 : Ze d 104 44 [l0, l1, l2, l3] (aI b :: aI a :: st) s = if a = b then Ze d 104 47 [l0, l1, l2, l3] st s else Ze d 104 51 [l0, l1, l2, l3] st s := Ze_b (i := (.if_icmp .ne 7)) (len := 3) (by decide +kernel) rfl
theorem x104_47 : Ze d 104 47 [l0, l1, l2, l3] st s = Ze d 104 48 [l0, l1, l2, l3] (aI 1 :: st) s := Ze_n (i := (.iconst 1)) (len := 1) (by decide +kernel) rfl
theorem x104_48 : Ze d 104 48 [l0, l1, l2, l3] st s = Ze d 104 52 [l0, l1, l2, l3] st s := Ze_n (i := (.goto 4)) (len := 3) (by decide +kernel) rfl
theorem x104_51 : Ze d 104 51 [l0, l1, l2, l3] st s = Ze d 104 52 [l0, l1, l2, l3] (aI 0 :: st) s := Ze_n (i := (.iconst 0)) (len := 1) (by decide +kernel) rfl
theorem x104_52 : Ze d 104 52 [l0, l1, l2, l3] (aI z :: st) s = Ze d 104 53 [l0, l1, l2, aI z] st s := Ze_n (i := (.istore_n 3)) (len := 1) (by decide +kernel) rfl
theorem x104_53 : Ze d 104 53 [aR r, l1, l2, l3] st s = Ze d 104 54 [aR r, l1, l2, l3] (aR r :: st) s := Ze_n (i := (.aload_n 0)) (len := 1) (by decide +kernel) rfl
theorem x104_54 (h : obC r = 5) : Ze d 104 54 [l0, l1, l2, l3] (aR r :: st) s = Ze d 104 57 [l0, l1, l2, l3] (aR (fcn r 3) :: st) s := Ze_gf (len := 3) (idx := 15) (by decide +kernel) rfl h rfl
theorem x104_57 : Ze d 104 57 [l0, l1, aI z, l3] st s = Ze d 104 58 [l0, l1, aI z, l3] (aI z :: st) s := Ze_n (i := (.iload_n 2)) (len := 1) (by decide +kernel) rfl
theorem x104_58 : Ze d 104 58 [l0, l1, l2, aI z] st s = Ze d 104 59 [l0, l1, l2, aI z] (aI z :: st) s := Ze_n (i := (.iload_n 3)) (len := 1) (by decide +kernel) rfl
theorem x104_59 : Ze d 104 59 [l0, l1, l2, l3] (aI a :: st) s = if a = 0 then Ze d 104 66 [l0, l1, l2, l3] st s else Ze d 104 62 [l0, l1, l2, l3] st s := Ze_b (i := (.ifCond .eq 7)) (len := 3) (by decide +kernel) rfl
theorem x104_62 : Ze d 104 62 [l0, l1, aI z, l3] st s = Ze d 104 63 [l0, l1, aI z, l3] (aI z :: st) s := Ze_n (i := (.iload_n 2)) (len := 1) (by decide +kernel) rfl
theorem x104_63 : Ze d 104 63 [l0, l1, l2, l3] st s = Ze d 104 68 [l0, l1, l2, l3] st s := Ze_n (i := (.goto 5)) (len := 3) (by decide +kernel) rfl
theorem x104_66 : Ze d 104 66 [l0, l1, l2, l3] st s = Ze d 104 68 [l0, l1, l2, l3] (aI 24 :: st) s := Ze_n (i := (.bipush 24)) (len := 2) (by decide +kernel) rfl
theorem x104_68 (h0 : 0 ≤ i) (h1 : i < aN1 r) : Ze d 104 68 [l0, l1, l2, l3] (aI z :: aI i :: aR r :: st) s = Ze d 104 69 [l0, l1, l2, l3] st (mu s r i.toNat z) := Ze_n (i := .iastore) (len := 1) (by decide +kernel) (if_pos ⟨h0, h1⟩)
theorem x104_69 : Ze d 104 69 [l0, l1, aI z, l3] st s = Ze d 104 72 [l0, l1, aI (wrap (z + 1)), l3] st s := Ze_n (i := (.iinc 2 1)) (len := 3) (by decide +kernel) rfl
theorem x104_72 : Ze d 104 72 [l0, l1, l2, l3] st s = Ze d 104 17 [l0, l1, l2, l3] st s := Ze_n (i := (.goto (-55))) (len := 3) (by decide +kernel) rfl
theorem x104_75 : Ze d 104 75 [l0, l1, l2, l3] [] s = rV s := Ze_v (by decide +kernel) rfl
theorem en104 : Zc (d + 1) 104 [aR r, aR r1] s = Ze d 104 0 [aR r, aR r1, aU, aU] [] s := rfl
theorem x105_0 : Ze d 105 0 [aR r, l1, l2, l3, l4, l5] st s = Ze d 105 1 [aR r, l1, l2, l3, l4, l5] (aR r :: st) s := Ze_n (i := (.aload_n 0)) (len := 1) (by decide +kernel) rfl
theorem x105_1 (h : obC r = 5) : Ze d 105 1 [l0, l1, l2, l3, l4, l5] (aR r :: st) s = Ze d 105 4 [l0, l1, l2, l3, l4, l5] (aR (fcn r 1) :: st) s := Ze_gf (len := 3) (idx := 39) (by decide +kernel) rfl h rfl
theorem x105_4 : Ze d 105 4 [l0, aR r, l2, l3, l4, l5] st s = Ze d 105 5 [l0, aR r, l2, l3, l4, l5] (aR r :: st) s := Ze_n (i := (.aload_n 1)) (len := 1) (by decide +kernel) rfl
theorem x105_5 : Ze d 105 5 [l0, l1, aI z, l3, l4, l5] st s = Ze d 105 6 [l0, l1, aI z, l3, l4, l5] (aI z :: st) s := Ze_n (i := (.iload_n 2)) (len := 1) (by decide +kernel) rfl
theorem x105_6 (h : obC r = 4) (h6 : st.length ≤ 4) : Ze d 105 6 [l0, l1, l2, l3, l4, l5] (aI a2 :: aR r1 :: aR r :: st) s = zcI (Zc d 98 [aR r, aR r1, aI a2] s) d 105 9 [l0, l1, l2, l3, l4, l5] st := Ze_cvI (idx := 125) (len := 3) (as := [aR r1, aI a2]) (by decide +kernel) rfl (by decide +kernel) rfl h h6
theorem x105_9 : Ze d 105 9 [l0, l1, l2, l3, l4, l5] (aI z :: st) s = Ze d 105 10 [l0, l1, l2, aI z, l4, l5] st s := Ze_n (i := (.istore_n 3)) (len := 1) (by decide +kernel) rfl
theorem x105_10 : Ze d 105 10 [l0, l1, l2, l3, l4, l5] st s = Ze d 105 11 [l0, l1, l2, l3, l4, l5] (aI 0 :: st) s := Ze_n (i := (.iconst 0)) (len := 1) (by decide +kernel) rfl
theorem x105_11 : Ze d 105 11 [l0, l1, l2, l3, l4, l5] (aI z :: st) s = Ze d 105 13 [l0, l1, l2, l3, aI z, l5] st s := Ze_n (i := (.istore 4)) (len := 2) (by decide +kernel) rfl
theorem x105_13 : Ze d 105 13 [l0, l1, l2, l3, aI z, l5] st s = Ze d 105 15 [l0, l1, l2, l3, aI z, l5] (aI z :: st) s := Ze_n (i := (.iload 4)) (len := 2) (by decide +kernel) rfl
theorem x105_15 : Ze d 105 15 [l0, l1, l2, aI z, l4, l5] st s = Ze d 105 16 [l0, l1, l2, aI z, l4, l5] (aI z :: st) s := Ze_n (i := (.iload_n 3)) (len := 1) (by decide +kernel) rfl
theorem x105_16 : Ze d 105 16 [l0, l1, l2, l3, l4, l5] (aI b :: aI a :: st) s = if a < b then Ze d 105 19 [l0, l1, l2, l3, l4, l5] st s else Ze d 105 69 [l0, l1, l2, l3, l4, l5] st s := Ze_b (i := (.if_icmp .ge 53)) (len := 3) (by decide +kernel) rfl
theorem x105_19 : Ze d 105 19 [aR r, l1, l2, l3, l4, l5] st s = Ze d 105 20 [aR r, l1, l2, l3, l4, l5] (aR r :: st) s := Ze_n (i := (.aload_n 0)) (len := 1) (by decide +kernel) rfl
theorem x105_20 (h : obC r = 5) : Ze d 105 20 [l0, l1, l2, l3, l4, l5] (aR r :: st) s = Ze d 105 23 [l0, l1, l2, l3, l4, l5] (aR (fcn r 1) :: st) s := Ze_gf (len := 3) (idx := 39) (by decide +kernel) rfl h rfl
theorem x105_23 : Ze d 105 23 [l0, aR r, l2, l3, l4, l5] st s = Ze d 105 24 [l0, aR r, l2, l3, l4, l5] (aR r :: st) s := Ze_n (i := (.aload_n 1)) (len := 1) (by decide +kernel) rfl
theorem x105_24 : Ze d 105 24 [l0, l1, aI z, l3, l4, l5] st s = Ze d 105 25 [l0, l1, aI z, l3, l4, l5] (aI z :: st) s := Ze_n (i := (.iload_n 2)) (len := 1) (by decide +kernel) rfl
theorem x105_25 : Ze d 105 25 [l0, l1, l2, l3, aI z, l5] st s = Ze d 105 27 [l0, l1, l2, l3, aI z, l5] (aI z :: st) s := Ze_n (i := (.iload 4)) (len := 2) (by decide +kernel) rfl
theorem x105_27 (h : obC r = 4) (h6 : st.length ≤ 4) : Ze d 105 27 [l0, l1, l2, l3, l4, l5] (aI a3 :: aI a2 :: aR r1 :: aR r :: st) s = zcI (Zc d 99 [aR r, aR r1, aI a2, aI a3] s) d 105 30 [l0, l1, l2, l3, l4, l5] st := Ze_cvI (idx := 131) (len := 3) (as := [aR r1, aI a2, aI a3]) (by decide +kernel) rfl (by decide +kernel) rfl h h6
theorem x105_30 : Ze d 105 30 [l0, l1, l2, l3, l4, l5] (aI z :: st) s = Ze d 105 32 [l0, l1, l2, l3, l4, aI z] st s := Ze_n (i := (.istore 5)) (len := 2) (by decide +kernel) rfl
theorem x105_32 : Ze d 105 32 [aR r, l1, l2, l3, l4, l5] st s = Ze d 105 33 [aR r, l1, l2, l3, l4, l5] (aR r :: st) s := Ze_n (i := (.aload_n 0)) (len := 1) (by decide +kernel) rfl
theorem x105_33 (h : obC r = 5) : Ze d 105 33 [l0, l1, l2, l3, l4, l5] (aR r :: st) s = Ze d 105 36 [l0, l1, l2, l3, l4, l5] (aR (fcn r 3) :: st) s := Ze_gf (len := 3) (idx := 15) (by decide +kernel) rfl h rfl
theorem x105_36 : Ze d 105 36 [l0, l1, l2, l3, l4, aI z] st s = Ze d 105 38 [l0, l1, l2, l3, l4, aI z] (aI z :: st) s := Ze_n (i := (.iload 5)) (len := 2) (by decide +kernel) rfl
theorem x105_38 : Ze d 105 38 [aR r, l1, l2, l3, l4, l5] st s = Ze d 105 39 [aR r, l1, l2, l3, l4, l5] (aR r :: st) s := Ze_n (i := (.aload_n 0)) (len := 1) (by decide +kernel) rfl
theorem x105_39 (h : obC r = 5) : Ze d 105 39 [l0, l1, l2, l3, l4, l5] (aR r :: st) s = Ze d 105 42 [l0, l1, l2, l3, l4, l5] (aR (fcn r 1) :: st) s := Ze_gf (len := 3) (idx := 39) (by decide +kernel) rfl h rfl
theorem x105_42 : Ze d 105 42 [l0, aR r, l2, l3, l4, l5] st s = Ze d 105 43 [l0, aR r, l2, l3, l4, l5] (aR r :: st) s := Ze_n (i := (.aload_n 1)) (len := 1) (by decide +kernel) rfl
theorem x105_43 : Ze d 105 43 [l0, l1, aI z, l3, l4, l5] st s = Ze d 105 44 [l0, l1, aI z, l3, l4, l5] (aI z :: st) s := Ze_n (i := (.iload_n 2)) (len := 1) (by decide +kernel) rfl
theorem x105_44 : Ze d 105 44 [l0, l1, l2, l3, aI z, l5] st s = Ze d 105 46 [l0, l1, l2, l3, aI z, l5] (aI z :: st) s := Ze_n (i := (.iload 4)) (len := 2) (by decide +kernel) rfl
theorem x105_46 (h : obC r = 4) (h6 : st.length ≤ 4) : Ze d 105 46 [l0, l1, l2, l3, l4, l5] (aI a3 :: aI a2 :: aR r1 :: aR r :: st) s = zcI (Zc d 100 [aR r, aR r1, aI a2, aI a3] s) d 105 49 [l0, l1, l2, l3, l4, l5] st := Ze_cvI (idx := 135) (len := 3) (as := [aR r1, aI a2, aI a3]) (by decide +kernel) rfl (by decide +kernel) rfl h h6
theorem x105_49 (h0 : 0 ≤ i) (h1 : i < aN1 r) : Ze d 105 49 [l0, l1, l2, l3, l4, l5] (aI z :: aI i :: aR r :: st) s = Ze d 105 50 [l0, l1, l2, l3, l4, l5] st (mu s r i.toNat z) := Ze_n (i := .iastore) (len := 1) (by decide +kernel) (if_pos ⟨h0, h1⟩)
theorem x105_50 : Ze d 105 50 [aR r, l1, l2, l3, l4, l5] st s = Ze d 105 51 [aR r, l1, l2, l3, l4, l5] (aR r :: st) s := Ze_n (i := (.aload_n 0)) (len := 1) (by decide +kernel) rfl
theorem x105_51 : Ze d 105 51 [l0, l1, l2, l3, l4, l5] (aR r :: st) s = Ze d 105 52 [l0, l1, l2, l3, l4, l5] (aR r :: aR r :: st) s := Ze_n (i := .dup) (len := 1) (by decide +kernel) rfl
theorem x105_51i : Ze d 105 51 [l0, l1, l2, l3, l4, l5] (aI a :: st) s = Ze d 105 52 [l0, l1, l2, l3, l4, l5] (aI a :: aI a :: st) s := Ze_n (i := .dup) (len := 1) (by decide +kernel) rfl
theorem x105_52 (h : obC r = 5) : Ze d 105 52 [l0, l1, l2, l3, l4, l5] (aR r :: st) s = Ze d 105 55 [l0, l1, l2, l3, l4, l5] (aI (s r 10) :: st) s := Ze_gf (len := 3) (idx := 111) (by decide +kernel) rfl h rfl
theorem x105_55 : Ze d 105 55 [l0, l1, l2, l3, l4, l5] st s = Ze d 105 56 [l0, l1, l2, l3, l4, l5] (aI 1 :: st) s := Ze_n (i := (.iconst 1)) (len := 1) (by decide +kernel) rfl
theorem x105_56 : Ze d 105 56 [l0, l1, l2, l3, l4, aI z] st s = Ze d 105 58 [l0, l1, l2, l3, l4, aI z] (aI z :: st) s := Ze_n (i := (.iload 5)) (len := 2) (by decide +kernel) rfl
theorem x105_58 : Ze d 105 58 [l0, l1, l2, l3, l4, l5] (aI b :: aI a :: st) s = Ze d 105 59 [l0, l1, l2, l3, l4, l5] (aI (ishl a b) :: st) s := Ze_n (i := .ishl) (len := 1) (by decide +kernel) rfl
theorem x105_59 : Ze d 105 59 [l0, l1, l2, l3, l4, l5] (aI b :: aI a :: st) s = Ze d 105 60 [l0, l1, l2, l3, l4, l5] (aI (ior a b) :: st) s := Ze_n (i := .ior) (len := 1) (by decide +kernel) rfl
theorem x105_60 (h : obC r = 5) : Ze d 105 60 [l0, l1, l2, l3, l4, l5] (aI z :: aR r :: st) s = Ze d 105 63 [l0, l1, l2, l3, l4, l5] st (mu s r 10 z) := Ze_n (i := .putfield 111) (len := 3) (by decide +kernel) (if_pos h)
theorem x105_63 : Ze d 105 63 [l0, l1, l2, l3, aI z, l5] st s = Ze d 105 66 [l0, l1, l2, l3, aI (wrap (z + 1)), l5] st s := Ze_n (i := (.iinc 4 1)) (len := 3) (by decide +kernel) rfl
theorem x105_66 : Ze d 105 66 [l0, l1, l2, l3, l4, l5] st s = Ze d 105 13 [l0, l1, l2, l3, l4, l5] st s := Ze_n (i := (.goto (-53))) (len := 3) (by decide +kernel) rfl
theorem x105_69 : Ze d 105 69 [l0, l1, l2, l3, l4, l5] [] s = rV s := Ze_v (by decide +kernel) rfl
theorem en105 : Zc (d + 1) 105 [aR r, aR r1, aI a2] s = Ze d 105 0 [aR r, aR r1, aI a2, aU, aU, aU] [] s := rfl
theorem x106_0 : Ze d 106 0 [aR r, l1] st s = Ze d 106 1 [aR r, l1] (aR r :: st) s := Ze_n (i := (.aload_n 0)) (len := 1) (by decide +kernel) rfl
theorem x106_1 (h : obC r = 5) : Ze d 106 1 [l0, l1] (aR r :: st) s = Ze d 106 4 [l0, l1] (aR (fcn r 6) :: st) s := Ze_gf (len := 3) (idx := 26) (by decide +kernel) rfl h rfl
theorem x106_4 : Ze d 106 4 [aR r, l1] st s = Ze d 106 5 [aR r, l1] (aR r :: st) s := Ze_n (i := (.aload_n 0)) (len := 1) (by decide +kernel) rfl
theorem x106_5 (h : obC r = 5) : Ze d 106 5 [l0, l1] (aR r :: st) s = Ze d 106 8 [l0, l1] (aI (s r 9) :: st) s := Ze_gf (len := 3) (idx := 108) (by decide +kernel) rfl h rfl
theorem x106_8 : Ze d 106 8 [l0, aI z] st s = Ze d 106 9 [l0, aI z] (aI z :: st) s := Ze_n (i := (.iload_n 1)) (len := 1) (by decide +kernel) rfl
theorem x106_9 (h0 : 0 ≤ i) (h1 : i < aN1 r) : Ze d 106 9 [l0, l1] (aI z :: aI i :: aR r :: st) s = Ze d 106 10 [l0, l1] st (mu s r i.toNat z) := Ze_n (i := .iastore) (len := 1) (by decide +kernel) (if_pos ⟨h0, h1⟩)
theorem x106_10 : Ze d 106 10 [aR r, l1] st s = Ze d 106 11 [aR r, l1] (aR r :: st) s := Ze_n (i := (.aload_n 0)) (len := 1) (by decide +kernel) rfl
theorem x106_11 (h : obC r = 5) : Ze d 106 11 [l0, l1] (aR r :: st) s = Ze d 106 14 [l0, l1] (aR (fcn r 3) :: st) s := Ze_gf (len := 3) (idx := 15) (by decide +kernel) rfl h rfl
theorem x106_14 : Ze d 106 14 [l0, l1] st s = Ze d 106 15 [l0, l1] (aI 0 :: st) s := Ze_n (i := (.iconst 0)) (len := 1) (by decide +kernel) rfl
theorem x106_15 : Ze d 106 15 [aR r, l1] st s = Ze d 106 16 [aR r, l1] (aR r :: st) s := Ze_n (i := (.aload_n 0)) (len := 1) (by decide +kernel) rfl
theorem x106_16 (h : obC r = 5) : Ze d 106 16 [l0, l1] (aR r :: st) s = Ze d 106 19 [l0, l1] (aR (fcn r 4) :: st) s := Ze_gf (len := 3) (idx := 20) (by decide +kernel) rfl h rfl
theorem x106_19 : Ze d 106 19 [aR r, l1] st s = Ze d 106 20 [aR r, l1] (aR r :: st) s := Ze_n (i := (.aload_n 0)) (len := 1) (by decide +kernel) rfl
theorem x106_20 (h : obC r = 5) : Ze d 106 20 [l0, l1] (aR r :: st) s = Ze d 106 23 [l0, l1] (aI (s r 9) :: st) s := Ze_gf (len := 3) (idx := 108) (by decide +kernel) rfl h rfl
theorem x106_23 (h0 : 0 ≤ i) (h1 : i < aN4 r) : Ze d 106 23 [l0, l1] (aI i :: aR r :: st) s = Ze d 106 24 [l0, l1] (aR (rcn r i.toNat) :: st) s := Ze_n (i := .aaload) (len := 1) (by decide +kernel) (if_pos ⟨h0, h1⟩)
theorem x106_24 : Ze d 106 24 [l0, l1] st s = Ze d 106 25 [l0, l1] (aI 0 :: st) s := Ze_n (i := (.iconst 0)) (len := 1) (by decide +kernel) rfl
theorem x106_25 : Ze d 106 25 [l0, l1] st s = Ze d 106 27 [l0, l1] (aI 24 :: st) s := Ze_n (i := (.bipush 24)) (len := 2) (by decide +kernel) rfl
theorem x106_27 (h1 : 0 ≤ n) (h2 : 0 ≤ dp) (h3 : 0 ≤ sp) (h4 : sp + n ≤ aN1 q) (h5 : dp + n ≤ aN1 r) (h7 : 0 < aN1 q) (h8 : 0 < aN1 r) (h6 : st.length ≤ 4) : Ze d 106 27 [l0, l1] (aI n :: aI dp :: aR r :: aI sp :: aR q :: st) s = Ze d 106 30 [l0, l1] st (cpM s q sp.toNat r dp.toNat n.toNat) := Ze_n (i := .invokestatic 138) (len := 3) (by decide +kernel) (if_pos ⟨h1, h2, h3, h4, h5, h7, h8, h6⟩)
theorem x106_30 : Ze d 106 30 [aR r, l1] st s = Ze d 106 31 [aR r, l1] (aR r :: st) s := Ze_n (i := (.aload_n 0)) (len := 1) (by decide +kernel) rfl
theorem x106_31 (h : obC r = 5) : Ze d 106 31 [l0, l1] (aR r :: st) s = Ze d 106 34 [l0, l1] (aR (fcn r 7) :: st) s := Ze_gf (len := 3) (idx := 29) (by decide +kernel) rfl h rfl
theorem x106_34 : Ze d 106 34 [aR r, l1] st s = Ze d 106 35 [aR r, l1] (aR r :: st) s := Ze_n (i := (.aload_n 0)) (len := 1) (by decide +kernel) rfl
theorem x106_35 (h : obC r = 5) : Ze d 106 35 [l0, l1] (aR r :: st) s = Ze d 106 38 [l0, l1] (aI (s r 9) :: st) s := Ze_gf (len := 3) (idx := 108) (by decide +kernel) rfl h rfl
theorem x106_38 : Ze d 106 38 [aR r, l1] st s = Ze d 106 39 [aR r, l1] (aR r :: st) s := Ze_n (i := (.aload_n 0)) (len := 1) (by decide +kernel) rfl
theorem x106_39 (h : obC r = 5) : Ze d 106 39 [l0, l1] (aR r :: st) s = Ze d 106 42 [l0, l1] (aI (s r 10) :: st) s := Ze_gf (len := 3) (idx := 111) (by decide +kernel) rfl h rfl
theorem x106_42 (h0 : 0 ≤ i) (h1 : i < aN1 r) : Ze d 106 42 [l0, l1] (aI z :: aI i :: aR r :: st) s = Ze d 106 43 [l0, l1] st (mu s r i.toNat z) := Ze_n (i := .iastore) (len := 1) (by decide +kernel) (if_pos ⟨h0, h1⟩)
theorem x106_43 : Ze d 106 43 [aR r, l1] st s = Ze d 106 44 [aR r, l1] (aR r :: st) s := Ze_n (i := (.aload_n 0)) (len := 1) (by decide +kernel) rfl
theorem x106_44 : Ze d 106 44 [l0, l1] st s = Ze d 106 45 [l0, l1] (aI 0 :: st) s := Ze_n (i := (.iconst 0)) (len := 1) (by decide +kernel) rfl
theorem x106_45 (h : obC r = 5) : Ze d 106 45 [l0, l1] (aI z :: aR r :: st) s = Ze d 106 48 [l0, l1] st (mu s r 10 z) := Ze_n (i := .putfield 111) (len := 3) (by decide +kernel) (if_pos h)
theorem x106_48 : Ze d 106 48 [aR r, l1] st s = Ze d 106 49 [aR r, l1] (aR r :: st) s := Ze_n (i := (.aload_n 0)) (len := 1) (by decide +kernel) rfl
theorem x106_49 : Ze d 106 49 [l0, l1] (aR r :: st) s = Ze d 106 50 [l0, l1] (aR r :: aR r :: st) s := Ze_n (i := .dup) (len := 1) (by decide +kernel) rfl
theorem x106_49i : Ze d 106 49 [l0, l1] (aI a :: st) s = Ze d 106 50 [l0, l1] (aI a :: aI a :: st) s := Ze_n (i := .dup) (len := 1) (by decide +kernel) rfl
theorem x106_50 (h : obC r = 5) : Ze d 106 50 [l0, l1] (aR r :: st) s = Ze d 106 53 [l0, l1] (aI (s r 9) :: st) s := Ze_gf (len := 3) (idx := 108) (by decide +kernel) rfl h rfl
theorem x106_53 : Ze d 106 53 [l0, l1] st s = Ze d 106 54 [l0, l1] (aI 1 :: st) s := Ze_n (i := (.iconst 1)) (len := 1) (by decide +kernel) rfl
theorem x106_54 : Ze d 106 54 [l0, l1] (aI b :: aI a :: st) s = Ze d 106 55 [l0, l1] (aI (wrap (a + b)) :: st) s := Ze_n (i := .iadd) (len := 1) (by decide +kernel) rfl
theorem x106_55 (h : obC r = 5) : Ze d 106 55 [l0, l1] (aI z :: aR r :: st) s = Ze d 106 58 [l0, l1] st (mu s r 9 z) := Ze_n (i := .putfield 108) (len := 3) (by decide +kernel) (if_pos h)
theorem x106_58 : Ze d 106 58 [l0, l1] [] s = rV s := Ze_v (by decide +kernel) rfl
theorem en106 : Zc (d + 1) 106 [aR r, aI a1] s = Ze d 106 0 [aR r, aI a1] [] s := rfl
theorem x107_0 : Ze d 107 0 [aR r] st s = Ze d 107 1 [aR r] (aR r :: st) s := Ze_n (i := (.aload_n 0)) (len := 1) (by decide +kernel) rfl
theorem x107_1 (h : obC r = 5) : Ze d 107 1 [l0] (aR r :: st) s = Ze d 107 4 [l0] (aR (fcn r 3) :: st) s := Ze_gf (len := 3) (idx := 15) (by decide +kernel) rfl h rfl
theorem x107_4 : Ze d 107 4 [l0] st s = Ze d 107 5 [l0] (aI 0 :: st) s := Ze_n (i := (.iconst 0)) (len := 1) (by decide +kernel) rfl
theorem x107_5 : Ze d 107 5 [aR r] st s = Ze d 107 6 [aR r] (aR r :: st) s := Ze_n (i := (.aload_n 0)) (len := 1) (by decide +kernel) rfl
theorem x107_6 (h : obC r = 5) : Ze d 107 6 [l0] (aR r :: st) s = Ze d 107 9 [l0] (aR (fcn r 5) :: st) s := Ze_gf (len := 3) (idx := 23) (by decide +kernel) rfl h rfl
theorem x107_9 : Ze d 107 9 [aR r] st s = Ze d 107 10 [aR r] (aR r :: st) s := Ze_n (i := (.aload_n 0)) (len := 1) (by decide +kernel) rfl
theorem x107_10 (h : obC r = 5) : Ze d 107 10 [l0] (aR r :: st) s = Ze d 107 13 [l0] (aI (s r 9) :: st) s := Ze_gf (len := 3) (idx := 108) (by decide +kernel) rfl h rfl
theorem x107_13 : Ze d 107 13 [l0] st s = Ze d 107 14 [l0] (aI 1 :: st) s := Ze_n (i := (.iconst 1)) (len := 1) (by decide +kernel) rfl
theorem x107_14 : Ze d 107 14 [l0] (aI b :: aI a :: st) s = Ze d 107 15 [l0] (aI (wrap (a - b)) :: st) s := Ze_n (i := .isub) (len := 1) (by decide +kernel) rfl
theorem x107_15 (h0 : 0 ≤ i) (h1 : i < aN4 r) : Ze d 107 15 [l0] (aI i :: aR r :: st) s = Ze d 107 16 [l0] (aR (rcn r i.toNat) :: st) s := Ze_n (i := .aaload) (len := 1) (by decide +kernel) (if_pos ⟨h0, h1⟩)
theorem x107_16 : Ze d 107 16 [l0] st s = Ze d 107 17 [l0] (aI 0 :: st) s := Ze_n (i := (.iconst 0)) (len := 1) (by decide +kernel) rfl
theorem x107_17 : Ze d 107 17 [l0] st s = Ze d 107 19 [l0] (aI 24 :: st) s := Ze_n (i := (.bipush 24)) (len := 2) (by decide +kernel) rfl
theorem x107_19 (h1 : 0 ≤ n) (h2 : 0 ≤ dp) (h3 : 0 ≤ sp) (h4 : sp + n ≤ aN1 q) (h5 : dp + n ≤ aN1 r) (h7 : 0 < aN1 q) (h8 : 0 < aN1 r) (h6 : st.length ≤ 4) : Ze d 107 19 [l0] (aI n :: aI dp :: aR r :: aI sp :: aR q :: st) s = Ze d 107 22 [l0] st (cpM s q sp.toNat r dp.toNat n.toNat) := Ze_n (i := .invokestatic 138) (len := 3) (by decide +kernel) (if_pos ⟨h1, h2, h3, h4, h5, h7, h8, h6⟩)
theorem x107_22 : Ze d 107 22 [aR r] st s = Ze d 107 23 [aR r] (aR r :: st) s := Ze_n (i := (.aload_n 0)) (len := 1) (by decide +kernel) rfl
theorem x107_23 (h : obC r = 5) : Ze d 107 23 [l0] (aR r :: st) s = Ze d 107 26 [l0] (aR (fcn r 4) :: st) s := Ze_gf (len := 3) (idx := 20) (by decide +kernel) rfl h rfl
theorem x107_26 : Ze d 107 26 [aR r] st s = Ze d 107 27 [aR r] (aR r :: st) s := Ze_n (i := (.aload_n 0)) (len := 1) (by decide +kernel) rfl
theorem x107_27 (h : obC r = 5) : Ze d 107 27 [l0] (aR r :: st) s = Ze d 107 30 [l0] (aI (s r 9) :: st) s := Ze_gf (len := 3) (idx := 108) (by decide +kernel) rfl h rfl
theorem x107_30 : Ze d 107 30 [l0] st s = Ze d 107 31 [l0] (aI 1 :: st) s := Ze_n (i := (.iconst 1)) (len := 1) (by decide +kernel) rfl
theorem x107_31 : Ze d 107 31 [l0] (aI b :: aI a :: st) s = Ze d 107 32 [l0] (aI (wrap (a - b)) :: st) s := Ze_n (i := .isub) (len := 1) (by decide +kernel) rfl
theorem x107_32 (h0 : 0 ≤ i) (h1 : i < aN4 r) : Ze d 107 32 [l0] (aI i :: aR r :: st) s = Ze d 107 33 [l0] (aR (rcn r i.toNat) :: st) s := Ze_n (i := .aaload) (len := 1) (by decide +kernel) (if_pos ⟨h0, h1⟩)
theorem x107_33 : Ze d 107 33 [l0] st s = Ze d 107 34 [l0] (aI 0 :: st) s := Ze_n (i := (.iconst 0)) (len := 1) (by decide +kernel) rfl
theorem x107_34 : Ze d 107 34 [aR r] st s = Ze d 107 35 [aR r] (aR r :: st) s := Ze_n (i := (.aload_n 0)) (len := 1) (by decide +kernel) rfl
theorem x107_35 (h : obC r = 5) : Ze d 107 35 [l0] (aR r :: st) s = Ze d 107 38 [l0] (aR (fcn r 3) :: st) s := Ze_gf (len := 3) (idx := 15) (by decide +kernel) rfl h rfl
theorem x107_38 : Ze d 107 38 [l0] st s = Ze d 107 39 [l0] (aI 0 :: st) s := Ze_n (i := (.iconst 0)) (len := 1) (by decide +kernel) rfl
theorem x107_39 : Ze d 107 39 [l0] st s = Ze d 107 41 [l0] (aI 24 :: st) s := Ze_n (i := (.bipush 24)) (len := 2) (by decide +kernel) rfl
theorem x107_41 (h1 : 0 ≤ n) (h2 : 0 ≤ dp) (h3 : 0 ≤ sp) (h4 : sp + n ≤ aN1 q) (h5 : dp + n ≤ aN1 r) (h7 : 0 < aN1 q) (h8 : 0 < aN1 r) (h6 : st.length ≤ 4) : Ze d 107 41 [l0] (aI n :: aI dp :: aR r :: aI sp :: aR q :: st) s = Ze d 107 44 [l0] st (cpM s q sp.toNat r dp.toNat n.toNat) := Ze_n (i := .invokestatic 138) (len := 3) (by decide +kernel) (if_pos ⟨h1, h2, h3, h4, h5, h7, h8, h6⟩)
theorem x107_44 : Ze d 107 44 [l0] [] s = rV s := Ze_v (by decide +kernel) rfl
theorem en107 : Zc (d + 1) 107 [aR r] s = Ze d 107 0 [aR r] [] s := rfl
theorem x108_0 : Ze d 108 0 [aR r, l1, l2, l3, l4] st s = Ze d 108 1 [aR r, l1, l2, l3, l4] (aR r :: st) s := Ze_n (i := (.aload_n 0)) (len := 1) (by decide +kernel) rfl
theorem x108_1 : Ze d 108 1 [l0, l1, l2, l3, l4] (aR r :: st) s = Ze d 108 2 [l0, l1, l2, l3, l4] (aR r :: aR r :: st) s := Ze_n (i := .dup) (len := 1) (by decide +kernel) rfl
theorem x108_1i : Ze d 108 1 [l0, l1, l2, l3, l4] (aI a :: st) s = Ze d 108 2 [l0, l1, l2, l3, l4] (aI a :: aI a :: st) s := Ze_n (i := .dup) (len := 1) (by decide +kernel) rfl
theorem x108_2 (h : obC r = 5) : Ze d 108 2 [l0, l1, l2, l3, l4] (aR r :: st) s = Ze d 108 5 [l0, l1, l2, l3, l4] (aI (s r 9) :: st) s := Ze_gf (len := 3) (idx := 108) (by decide +kernel) rfl h rfl
theorem x108_5 : Ze d 108 5 [l0, l1, l2, l3, l4] st s = Ze d 108 6 [l0, l1, l2, l3, l4] (aI 1 :: st) s := Ze_n (i := (.iconst 1)) (len := 1) (by decide +kernel) rfl
theorem x108_6 : Ze d 108 6 [l0, l1, l2, l3, l4] (aI b :: aI a :: st) s = Ze d 108 7 [l0, l1, l2, l3, l4] (aI (wrap (a - b)) :: st) s := Ze_n (i := .isub) (len := 1) (by decide +kernel) rfl
theorem x108_7 (h : obC r = 5) : Ze d 108 7 [l0, l1, l2, l3, l4] (aI z :: aR r :: st) s = Ze d 108 10 [l0, l1, l2, l3, l4] st (mu s r 9 z) := Ze_n (i := .putfield 108) (len := 3) (by decide +kernel) (if_pos h)
theorem x108_10 : Ze d 108 10 [l0, l1, l2, l3, l4] st s = Ze d 108 11 [l0, l1, l2, l3, l4] (aI 0 :: st) s := Ze_n (i := (.iconst 0)) (len := 1) (by decide +kernel) rfl
theorem x108_11 : Ze d 108 11 [l0, l1, l2, l3, l4] (aI z :: st) s = Ze d 108 12 [l0, l1, aI z, l3, l4] st s := Ze_n (i := (.istore_n 2)) (len := 1) (by decide +kernel) rfl
theorem x108_12 : Ze d 108 12 [l0, l1, aI z, l3, l4] st s = Ze d 108 13 [l0, l1, aI z, l3, l4] (aI z :: st) s := Ze_n (i := (.iload_n 2)) (len := 1) (by decide +kernel) rfl
theorem x108_13 : Ze d 108 13 [l0, l1, l2, l3, l4] st s = Ze d 108 15 [l0, l1, l2, l3, l4] (aI 24 :: st) s := Ze_n (i := (.bipush 24)) (len := 2) (by decide +kernel) rfl
theorem x108_15 : Ze d 108 15 [l0, l1, l2, l3, l4] (aI b :: aI a :: st) s = if a < b then Ze d 108 18 [l0, l1, l2, l3, l4] st s else Ze d 108 118 [l0, l1, l2, l3, l4] st s := Ze_b (i := (.if_icmp .ge 103)) (len := 3) (by decide +kernel) rfl
theorem x108_18 : Ze d 108 18 [aR r, l1, l2, l3, l4] st s = Ze d 108 19 [aR r, l1, l2, l3, l4] (aR r :: st) s := Ze_n (i := (.aload_n 0)) (len := 1) (by decide +kernel) rfl
theorem x108_19 (h : obC r = 5) : Ze d 108 19 [l0, l1, l2, l3, l4] (aR r :: st) s = Ze d 108 22 [l0, l1, l2, l3, l4] (aI (s r 10) :: st) s := Ze_gf (len := 3) (idx := 111) (by decide +kernel) rfl h rfl
theorem x108_22 : Ze d 108 22 [l0, l1, aI z, l3, l4] st s = Ze d 108 23 [l0, l1, aI z, l3, l4] (aI z :: st) s := Ze_n (i := (.iload_n 2)) (len := 1) (by decide +kernel) rfl
theorem x108_23 : Ze d 108 23 [l0, l1, l2, l3, l4] (aI b :: aI a :: st) s = Ze d 108 24 [l0, l1, l2, l3, l4] (aI (ishr a b) :: st) s := Ze_n (i := .ishr) (len := 1) (by decide +kernel) rfl
theorem x108_24 : Ze d 108 24 [l0, l1, l2, l3, l4] st s = Ze d 108 25 [l0, l1, l2, l3, l4] (aI 1 :: st) s := Ze_n (i := (.iconst 1)) (len := 1) (by decide +kernel) rfl
theorem x108_25 : Ze d 108 25 [l0, l1, l2, l3, l4] (aI b :: aI a :: st) s = Ze d 108 26 [l0, l1, l2, l3, l4] (aI (iand a b) :: st) s := Ze_n (i := .iand) (len := 1) (by decide +kernel) rfl
theorem x108_26 : Ze d 108 26 [l0, l1, l2, l3, l4] st s = Ze d 108 27 [l0, l1, l2, l3, l4] (aI 1 :: st) s := Ze_n (i := (.iconst 1)) (len := 1) (by decide +kernel) rfl
theorem x108_27 : Ze d 108 27 [l0, l1, l2, l3, l4] (aI b :: aI a :: st) s = if a = b then Ze d 108 30 [l0, l1, l2, l3, l4] st s else Ze d 108 112 [l0, l1, l2, l3, l4] st s := Ze_b (i := (.if_icmp .ne 85)) (len := 3) (by decide +kernel) rfl
theorem x108_30 : Ze d 108 30 [aR r, l1, l2, l3, l4] st s = Ze d 108 31 [aR r, l1, l2, l3, l4] (aR r :: st) s := Ze_n (i := (.aload_n 0)) (len := 1) (by decide +kernel) rfl
theorem x108_31 (h : obC r = 5) : Ze d 108 31 [l0, l1, l2, l3, l4] (aR r :: st) s = Ze d 108 34 [l0, l1, l2, l3, l4] (aR (fcn r 5) :: st) s := Ze_gf (len := 3) (idx := 23) (by decide +kernel) rfl h rfl
theorem x108_34 : Ze d 108 34 [aR r, l1, l2, l3, l4] st s = Ze d 108 35 [aR r, l1, l2, l3, l4] (aR r :: st) s := Ze_n (i := (.aload_n 0)) (len := 1) (by decide +kernel) rfl
theorem x108_35 (h : obC r = 5) : Ze d 108 35 [l0, l1, l2, l3, l4] (aR r :: st) s = Ze d 108 38 [l0, l1, l2, l3, l4] (aI (s r 9) :: st) s := Ze_gf (len := 3) (idx := 108) (by decide +kernel) rfl h rfl
theorem x108_38 (h0 : 0 ≤ i) (h1 : i < aN4 r) : Ze d 108 38 [l0, l1, l2, l3, l4] (aI i :: aR r :: st) s = Ze d 108 39 [l0, l1, l2, l3, l4] (aR (rcn r i.toNat) :: st) s := Ze_n (i := .aaload) (len := 1) (by decide +kernel) (if_pos ⟨h0, h1⟩)
theorem x108_39 : Ze d 108 39 [l0, l1, aI z, l3, l4] st s = Ze d 108 40 [l0, l1, aI z, l3, l4] (aI z :: st) s := Ze_n (i := (.iload_n 2)) (len := 1) (by decide +kernel) rfl
theorem x108_40 (h0 : 0 ≤ i) (h1 : i < aN1 r) : Ze d 108 40 [l0, l1, l2, l3, l4] (aI i :: aR r :: st) s = Ze d 108 41 [l0, l1, l2, l3, l4] (aI (s r i.toNat) :: st) s := Ze_n (i := .iaload) (len := 1) (by decide +kernel) (if_pos ⟨h0, h1⟩)
theorem x108_41 : Ze d 108 41 [l0, l1, l2, l3, l4] (aI z :: st) s = Ze d 108 42 [l0, l1, l2, aI z, l4] st s := Ze_n (i := (.istore_n 3)) (len := 1) (by decide +kernel) rfl
theorem x108_42 : Ze d 108 42 [l0, aR r, l2, l3, l4] st s = Ze d 108 43 [l0, aR r, l2, l3, l4] (aR r :: st) s := Ze_n (i := (.aload_n 1)) (len := 1) (by decide +kernel) rfl
theorem x108_43 : Ze d 108 43 [aR r, l1, l2, l3, l4] st s = Ze d 108 44 [aR r, l1, l2, l3, l4] (aR r :: st) s := Ze_n (i := (.aload_n 0)) (len := 1) (by decide +kernel) rfl
theorem x108_44 (h : obC r = 5) : Ze d 108 44 [l0, l1, l2, l3, l4] (aR r :: st) s = Ze d 108 47 [l0, l1, l2, l3, l4] (aR (fcn r 6) :: st) s := Ze_gf (len := 3) (idx := 26) (by decide +kernel) rfl h rfl
theorem x108_47 : Ze d 108 47 [aR r, l1, l2, l3, l4] st s = Ze d 108 48 [aR r, l1, l2, l3, l4] (aR r :: st) s := Ze_n (i := (.aload_n 0)) (len := 1) (by decide +kernel) rfl
theorem x108_48 (h : obC r = 5) : Ze d 108 48 [l0, l1, l2, l3, l4] (aR r :: st) s = Ze d 108 51 [l0, l1, l2, l3, l4] (aI (s r 9) :: st) s := Ze_gf (len := 3) (idx := 108) (by decide +kernel) rfl h rfl
theorem x108_51 (h0 : 0 ≤ i) (h1 : i < aN1 r) : Ze d 108 51 [l0, l1, l2, l3, l4] (aI i :: aR r :: st) s = Ze d 108 52 [l0, l1, l2, l3, l4] (aI (s r i.toNat) :: st) s := Ze_n (i := .iaload) (len := 1) (by decide +kernel) (if_pos ⟨h0, h1⟩)
theorem x108_52 : Ze d 108 52 [l0, l1, l2, aI z, l4] st s = Ze d 108 53 [l0, l1, l2, aI z, l4] (aI z :: st) s := Ze_n (i := (.iload_n 3)) (len := 1) (by decide +kernel) rfl
theorem x108_53 : Ze d 108 53 [aR r, l1, l2, l3, l4] st s = Ze d 108 54 [aR r, l1, l2, l3, l4] (aR r :: st) s := Ze_n (i := (.aload_n 0)) (len := 1) (by decide +kernel) rfl
theorem x108_54 (h : obC r = 5) : Ze d 108 54 [l0, l1, l2, l3, l4] (aR r :: st) s = Ze d 108 57 [l0, l1, l2, l3, l4] (aR (fcn r 3) :: st) s := Ze_gf (len := 3) (idx := 15) (by decide +kernel) rfl h rfl
theorem x108_57 : Ze d 108 57 [l0, l1, aI z, l3, l4] st s = Ze d 108 58 [l0, l1, aI z, l3, l4] (aI z :: st) s := Ze_n (i := (.iload_n 2)) (len := 1) (by decide +kernel) rfl
theorem x108_58 (h0 : 0 ≤ i) (h1 : i < aN1 r) : Ze d 108 58 [l0, l1, l2, l3, l4] (aI i :: aR r :: st) s = Ze d 108 59 [l0, l1, l2, l3, l4] (aI (s r i.toNat) :: st) s := Ze_n (i := .iaload) (len := 1) (by decide +kernel) (if_pos ⟨h0, h1⟩)
theorem x108_59 (h : obC r = 3) (h6 : st.length ≤ 4) : Ze d 108 59 [l0, l1, l2, l3, l4] (aI a3 :: aI a2 :: aI a1 :: aR r :: st) s = zcI (Zc d 91 [aR r, aI a1, aI a2, aI a3] s) d 108 62 [l0, l1, l2, l3, l4] st := Ze_cvI (idx := 144) (len := 3) (as := [aI a1, aI a2, aI a3]) (by decide +kernel) rfl (by decide +kernel) rfl h h6
theorem x108_62 : Ze d 108 62 [l0, l1, l2, l3, l4] (aI z :: st) s = Ze d 108 64 [l0, l1, l2, l3, aI z] st s := Ze_n (i := (.istore 4)) (len := 2) (by decide +kernel) rfl
theorem x108_64 : Ze d 108 64 [aR r, l1, l2, l3, l4] st s = Ze d 108 65 [aR r, l1, l2, l3, l4] (aR r :: st) s := Ze_n (i := (.aload_n 0)) (len := 1) (by decide +kernel) rfl
theorem x108_65 (h : obC r = 5) : Ze d 108 65 [l0, l1, l2, l3, l4] (aR r :: st) s = Ze d 108 68 [l0, l1, l2, l3, l4] (aR (fcn r 2) :: st) s := Ze_gf (len := 3) (idx := 9) (by decide +kernel) rfl h rfl
theorem x108_68 : Ze d 108 68 [l0, l1, l2, l3, aI z] st s = Ze d 108 70 [l0, l1, l2, l3, aI z] (aI z :: st) s := Ze_n (i := (.iload 4)) (len := 2) (by decide +kernel) rfl
theorem x108_70 : Ze d 108 70 [aR r, l1, l2, l3, l4] st s = Ze d 108 71 [aR r, l1, l2, l3, l4] (aR r :: st) s := Ze_n (i := (.aload_n 0)) (len := 1) (by decide +kernel) rfl
theorem x108_71 (h : obC r = 5) : Ze d 108 71 [l0, l1, l2, l3, l4] (aR r :: st) s = Ze d 108 74 [l0, l1, l2, l3, l4] (aR (fcn r 2) :: st) s := Ze_gf (len := 3) (idx := 9) (by decide +kernel) rfl h rfl
theorem x108_74 : Ze d 108 74 [aR r, l1, l2, l3, l4] st s = Ze d 108 75 [aR r, l1, l2, l3, l4] (aR r :: st) s := Ze_n (i := (.aload_n 0)) (len := 1) (by decide +kernel) rfl
theorem x108_75 (h : obC r = 5) : Ze d 108 75 [l0, l1, l2, l3, l4] (aR r :: st) s = Ze d 108 78 [l0, l1, l2, l3, l4] (aR (fcn r 6) :: st) s := Ze_gf (len := 3) (idx := 26) (by decide +kernel) rfl h rfl
theorem x108_78 : Ze d 108 78 [aR r, l1, l2, l3, l4] st s = Ze d 108 79 [aR r, l1, l2, l3, l4] (aR r :: st) s := Ze_n (i := (.aload_n 0)) (len := 1) (by decide +kernel) rfl
theorem x108_79 (h : obC r = 5) : Ze d 108 79 [l0, l1, l2, l3, l4] (aR r :: st) s = Ze d 108 82 [l0, l1, l2, l3, l4] (aI (s r 9) :: st) s := Ze_gf (len := 3) (idx := 108) (by decide +kernel) rfl h rfl
theorem x108_82 (h0 : 0 ≤ i) (h1 : i < aN1 r) : Ze d 108 82 [l0, l1, l2, l3, l4] (aI i :: aR r :: st) s = Ze d 108 83 [l0, l1, l2, l3, l4] (aI (s r i.toNat) :: st) s := Ze_n (i := .iaload) (len := 1) (by decide +kernel) (if_pos ⟨h0, h1⟩)
theorem x108_83 (h0 : 0 ≤ i) (h1 : i < aN1 r) : Ze d 108 83 [l0, l1, l2, l3, l4] (aI i :: aR r :: st) s = Ze d 108 84 [l0, l1, l2, l3, l4] (aI (s r i.toNat) :: st) s := Ze_n (i := .iaload) (len := 1) (by decide +kernel) (if_pos ⟨h0, h1⟩)
theorem x108_84 : Ze d 108 84 [aR r, l1, l2, l3, l4] st s = Ze d 108 85 [aR r, l1, l2, l3, l4] (aR r :: st) s := Ze_n (i := (.aload_n 0)) (len := 1) (by decide +kernel) rfl
theorem x108_85 (h : obC r = 5) : Ze d 108 85 [l0, l1, l2, l3, l4] (aR r :: st) s = Ze d 108 88 [l0, l1, l2, l3, l4] (aR (fcn r 2) :: st) s := Ze_gf (len := 3) (idx := 9) (by decide +kernel) rfl h rfl
theorem x108_88 : Ze d 108 88 [l0, l1, l2, aI z, l4] st s = Ze d 108 89 [l0, l1, l2, aI z, l4] (aI z :: st) s := Ze_n (i := (.iload_n 3)) (len := 1) (by decide +kernel) rfl
theorem x108_89 (h0 : 0 ≤ i) (h1 : i < aN1 r) : Ze d 108 89 [l0, l1, l2, l3, l4] (aI i :: aR r :: st) s = Ze d 108 90 [l0, l1, l2, l3, l4] (aI (s r i.toNat) :: st) s := Ze_n (i := .iaload) (len := 1) (by decide +kernel) (if_pos ⟨h0, h1⟩)
theorem x108_90 : Ze d 108 90 [l0, l1, l2, l3, l4] (aI b :: aI a :: st) s = Ze d 108 91 [l0, l1, l2, l3, l4] (aI (ior a b) :: st) s := Ze_n (i := .ior) (len := 1) (by decide +kernel) rfl
theorem x108_91 : Ze d 108 91 [aR r, l1, l2, l3, l4] st s = Ze d 108 92 [aR r, l1, l2, l3, l4] (aR r :: st) s := Ze_n (i := (.aload_n 0)) (len := 1) (by decide +kernel) rfl
theorem x108_92 (h : obC r = 5) : Ze d 108 92 [l0, l1, l2, l3, l4] (aR r :: st) s = Ze d 108 95 [l0, l1, l2, l3, l4] (aR (fcn r 2) :: st) s := Ze_gf (len := 3) (idx := 9) (by decide +kernel) rfl h rfl
theorem x108_95 : Ze d 108 95 [aR r, l1, l2, l3, l4] st s = Ze d 108 96 [aR r, l1, l2, l3, l4] (aR r :: st) s := Ze_n (i := (.aload_n 0)) (len := 1) (by decide +kernel) rfl
theorem x108_96 (h : obC r = 5) : Ze d 108 96 [l0, l1, l2, l3, l4] (aR r :: st) s = Ze d 108 99 [l0, l1, l2, l3, l4] (aR (fcn r 3) :: st) s := Ze_gf (len := 3) (idx := 15) (by decide +kernel) rfl h rfl
theorem x108_99 : Ze d 108 99 [l0, l1, aI z, l3, l4] st s = Ze d 108 100 [l0, l1, aI z, l3, l4] (aI z :: st) s := Ze_n (i := (.iload_n 2)) (len := 1) (by decide +kernel) rfl
theorem x108_100 (h0 : 0 ≤ i) (h1 : i < aN1 r) : Ze d 108 100 [l0, l1, l2, l3, l4] (aI i :: aR r :: st) s = Ze d 108 101 [l0, l1, l2, l3, l4] (aI (s r i.toNat) :: st) s := Ze_n (i := .iaload) (len := 1) (by decide +kernel) (if_pos ⟨h0, h1⟩)
theorem x108_101 (h0 : 0 ≤ i) (h1 : i < aN1 r) : Ze d 108 101 [l0, l1, l2, l3, l4] (aI i :: aR r :: st) s = Ze d 108 102 [l0, l1, l2, l3, l4] (aI (s r i.toNat) :: st) s := Ze_n (i := .iaload) (len := 1) (by decide +kernel) (if_pos ⟨h0, h1⟩)
theorem x108_102 : Ze d 108 102 [l0, l1, l2, l3, l4] (aI b :: aI a :: st) s = Ze d 108 103 [l0, l1, l2, l3, l4] (aI (ior a b) :: st) s := Ze_n (i := .ior) (len := 1) (by decide +kernel) rfl
theorem x108_103 (h0 : 0 ≤ i) (h1 : i < aN1 r) : Ze d 108 103 [l0, l1, l2, l3, l4] (aI z :: aI i :: aR r :: st) s = Ze d 108 104 [l0, l1, l2, l3, l4] st (mu s r i.toNat z) := Ze_n (i := .iastore) (len := 1) (by decide +kernel) (if_pos ⟨h0, h1⟩)
theorem x108_104 : Ze d 108 104 [aR r, l1, l2, l3, l4] st s = Ze d 108 105 [aR r, l1, l2, l3, l4] (aR r :: st) s := Ze_n (i := (.aload_n 0)) (len := 1) (by decide +kernel) rfl
theorem x108_105 (h : obC r = 5) : Ze d 108 105 [l0, l1, l2, l3, l4] (aR r :: st) s = Ze d 108 108 [l0, l1, l2, l3, l4] (aR (fcn r 3) :: st) s := Ze_gf (len := 3) (idx := 15) (by decide +kernel) rfl h rfl
theorem x108_108 : Ze d 108 108 [l0, l1, aI z, l3, l4] st s = Ze d 108 109 [l0, l1, aI z, l3, l4] (aI z :: st) s := Ze_n (i := (.iload_n 2)) (len := 1) (by decide +kernel) rfl
theorem x108_109 : Ze d 108 109 [l0, l1, l2, l3, aI z] st s = Ze d 108 111 [l0, l1, l2, l3, aI z] (aI z :: st) s := Ze_n (i := (.iload 4)) (len := 2) (by decide +kernel) rfl
theorem x108_111 (h0 : 0 ≤ i) (h1 : i < aN1 r) : Ze d 108 111 [l0, l1, l2, l3, l4] (aI z :: aI i :: aR r :: st) s = Ze d 108 112 [l0, l1, l2, l3, l4] st (mu s r i.toNat z) := Ze_n (i := .iastore) (len := 1) (by decide +kernel) (if_pos ⟨h0, h1⟩)
theorem x108_112 : Ze d 108 112 [l0, l1, aI z, l3, l4] st s = Ze d 108 115 [l0, l1, aI (wrap (z + 1)), l3, l4] st s := Ze_n (i := (.iinc 2 1)) (len := 3) (by decide +kernel) rfl
theorem x108_115 : Ze d 108 115 [l0, l1, l2, l3, l4] st s = Ze d 108 12 [l0, l1, l2, l3, l4] st s := Ze_n (i := (.goto (-103))) (len := 3) (by decide +kernel) rfl
theorem x108_118 : Ze d 108 118 [aR r, l1, l2, l3, l4] st s = Ze d 108 119 [aR r, l1, l2, l3, l4] (aR r :: st) s := Ze_n (i := (.aload_n 0)) (len := 1) (by decide +kernel) rfl
theorem x108_119 : Ze d 108 119 [l0, l1, l2, l3, l4] (aR r :: st) s = Ze d 108 120 [l0, l1, l2, l3, l4] (aR r :: aR r :: st) s := Ze_n (i := .dup) (len := 1) (by decide +kernel) rfl
theorem x108_119i : Ze d 108 119 [l0, l1, l2, l3, l4] (aI a :: st) s = Ze d 108 120 [l0, l1, l2, l3, l4] (aI a :: aI a :: st) s := Ze_n (i := .dup) (len := 1) (by decide +kernel) rfl
theorem x108_120 (h : obC r = 5) : Ze d 108 120 [l0, l1, l2, l3, l4] (aR r :: st) s = Ze d 108 123 [l0, l1, l2, l3, l4] (aI (s r 10) :: st) s := Ze_gf (len := 3) (idx := 111) (by decide +kernel) rfl h rfl
theorem x108_123 : Ze d 108 123 [aR r, l1, l2, l3, l4] st s = Ze d 108 124 [aR r, l1, l2, l3, l4] (aR r :: st) s := Ze_n (i := (.aload_n 0)) (len := 1) (by decide +kernel) rfl
theorem x108_124 (h : obC r = 5) : Ze d 108 124 [l0, l1, l2, l3, l4] (aR r :: st) s = Ze d 108 127 [l0, l1, l2, l3, l4] (aR (fcn r 7) :: st) s := Ze_gf (len := 3) (idx := 29) (by decide +kernel) rfl h rfl
theorem x108_127 : Ze d 108 127 [aR r, l1, l2, l3, l4] st s = Ze d 108 128 [aR r, l1, l2, l3, l4] (aR r :: st) s := Ze_n (i := (.aload_n 0)) (len := 1) (by decide +kernel) rfl
theorem x108_128 (h : obC r = 5) : Ze d 108 128 [l0, l1, l2, l3, l4] (aR r :: st) s = Ze d 108 131 [l0, l1, l2, l3, l4] (aI (s r 9) :: st) s := Ze_gf (len := 3) (idx := 108) (by decide +kernel) rfl h rfl
theorem x108_131 (h0 : 0 ≤ i) (h1 : i < aN1 r) : Ze d 108 131 [l0, l1, l2, l3, l4] (aI i :: aR r :: st) s = Ze d 108 132 [l0, l1, l2, l3, l4] (aI (s r i.toNat) :: st) s := Ze_n (i := .iaload) (len := 1) (by decide +kernel) (if_pos ⟨h0, h1⟩)
theorem x108_132 : Ze d 108 132 [l0, l1, l2, l3, l4] (aI b :: aI a :: st) s = Ze d 108 133 [l0, l1, l2, l3, l4] (aI (ior a b) :: st) s := Ze_n (i := .ior) (len := 1) (by decide +kernel) rfl
theorem x108_133 (h : obC r = 5) : Ze d 108 133 [l0, l1, l2, l3, l4] (aI z :: aR r :: st) s = Ze d 108 136 [l0, l1, l2, l3, l4] st (mu s r 10 z) := Ze_n (i := .putfield 111) (len := 3) (by decide +kernel) (if_pos h)
theorem x108_136 : Ze d 108 136 [l0, l1, l2, l3, l4] [] s = rV s := Ze_v (by decide +kernel) rfl
theorem en108 : Zc (d + 1) 108 [aR r, aR r1] s = Ze d 108 0 [aR r, aR r1, aU, aU, aU] [] s := rfl
theorem x109_0 : Ze d 109 0 [l0, l1, l2] st s = Ze d 109 1 [l0, l1, l2] (aI 0 :: st) s := Ze_n (i := (.iconst 0)) (len := 1) (by decide +kernel) rfl
theorem x109_1 : Ze d 109 1 [l0, l1, l2] (aI z :: st) s = Ze d 109 2 [l0, l1, aI z] st s := Ze_n (i := (.istore_n 2)) (len := 1) (by decide +kernel) rfl
theorem x109_2 : Ze d 109 2 [l0, l1, aI z] st s = Ze d 109 3 [l0, l1, aI z] (aI z :: st) s := Ze_n (i := (.iload_n 2)) (len := 1) (by decide +kernel) rfl
theorem x109_3 : Ze d 109 3 [l0, aR r, l2] st s = Ze d 109 4 [l0, aR r, l2] (aR r :: st) s := Ze_n (i := (.aload_n 1)) (len := 1) (by decide +kernel) rfl
theorem x109_4 (h : obC r = 3) : Ze d 109 4 [l0, l1, l2] (aR r :: st) s = Ze d 109 7 [l0, l1, l2] (aR (fcn r 0) :: st) s := Ze_gf (len := 3) (idx := 117) (by decide +kernel) rfl h rfl
theorem x109_7 (h : obC r = 8) : Ze d 109 7 [l0, l1, l2] (aR r :: st) s = Ze d 109 10 [l0, l1, l2] (aI (s r 6) :: st) s := Ze_gf (len := 3) (idx := 121) (by decide +kernel) rfl h rfl
theorem x109_10 : Ze d 109 10 [l0, l1, l2] (aI b :: aI a :: st) s = if a < b then Ze d 109 13 [l0, l1, l2] st s else Ze d 109 75 [l0, l1, l2] st s := Ze_b (i := (.if_icmp .ge 65)) (len := 3) (by decide +kernel) rfl
theorem x109_13 : Ze d 109 13 [l0, aR r, l2] st s = Ze d 109 14 [l0, aR r, l2] (aR r :: st) s := Ze_n (i := (.aload_n 1)) (len := 1) (by decide +kernel) rfl
theorem x109_14 (h : obC r = 3) : Ze d 109 14 [l0, l1, l2] (aR r :: st) s = Ze d 109 17 [l0, l1, l2] (aR (fcn r 0) :: st) s := Ze_gf (len := 3) (idx := 117) (by decide +kernel) rfl h rfl
theorem x109_17 (h : obC r = 8) : Ze d 109 17 [l0, l1, l2] (aR r :: st) s = Ze d 109 20 [l0, l1, l2] (aR (fcn r 4) :: st) s := Ze_gf (len := 3) (idx := 148) (by decide +kernel) rfl h rfl
theorem x109_20 : Ze d 109 20 [l0, l1, aI z] st s = Ze d 109 21 [l0, l1, aI z] (aI z :: st) s := Ze_n (i := (.iload_n 2)) (len := 1) (by decide +kernel) rfl
theorem x109_21 (h0 : 0 ≤ i) (h1 : i < aN2 r) : Ze d 109 21 [l0, l1, l2] (aI i :: aR r :: st) s = Ze d 109 22 [l0, l1, l2] (aI (s r i.toNat) :: st) s := Ze_n (i := .baload) (len := 1) (by decide +kernel) (if_pos ⟨h0, h1⟩)
theorem x109_22 : Ze d 109 22 [l0, l1, l2] (aI a :: st) s = if a = 0 then Ze d 109 37 [l0, l1, l2] st s else Ze d 109 25 [l0, l1, l2] st s := Ze_b (i := (.ifCond .eq 15)) (len := 3) (by decide +kernel) rfl
theorem x109_25 : Ze d 109 25 [l0, aR r, l2] st s = Ze d 109 26 [l0, aR r, l2] (aR r :: st) s := Ze_n (i := (.aload_n 1)) (len := 1) (by decide +kernel) rfl
theorem x109_26 (h : obC r = 3) : Ze d 109 26 [l0, l1, l2] (aR r :: st) s = Ze d 109 29 [l0, l1, l2] (aR (fcn r 7) :: st) s := Ze_gf (len := 3) (idx := 70) (by decide +kernel) rfl h rfl
theorem x109_29 : Ze d 109 29 [l0, l1, aI z] st s = Ze d 109 30 [l0, l1, aI z] (aI z :: st) s := Ze_n (i := (.iload_n 2)) (len := 1) (by decide +kernel) rfl
theorem x109_30 : Ze d 109 30 [aR r, l1, l2] st s = Ze d 109 31 [aR r, l1, l2] (aR r :: st) s := Ze_n (i := (.aload_n 0)) (len := 1) (by decide +kernel) rfl
theorem x109_31 (h : obC r = 5) : Ze d 109 31 [l0, l1, l2] (aR r :: st) s = Ze d 109 34 [l0, l1, l2] (aR (fcn r 3) :: st) s := Ze_gf (len := 3) (idx := 15) (by decide +kernel) rfl h rfl
theorem x109_34 : Ze d 109 34 [l0, l1, aI z] st s = Ze d 109 35 [l0, l1, aI z] (aI z :: st) s := Ze_n (i := (.iload_n 2)) (len := 1) (by decide +kernel) rfl
theorem x109_35 (h0 : 0 ≤ i) (h1 : i < aN1 r) : Ze d 109 35 [l0, l1, l2] (aI i :: aR r :: st) s = Ze d 109 36 [l0, l1, l2] (aI (s r i.toNat) :: st) s := Ze_n (i := .iaload) (len := 1) (by decide +kernel) (if_pos ⟨h0, h1⟩)
theorem x109_36 (h0 : 0 ≤ i) (h1 : i < aN1 r) : Ze d 109 36 [l0, l1, l2] (aI z :: aI i :: aR r :: st) s = Ze d 109 37 [l0, l1, l2] st (mu s r i.toNat z) := Ze_n (i := .iastore) (len := 1) (by decide +kernel) (if_pos ⟨h0, h1⟩)
theorem x109_37 : Ze d 109 37 [l0, aR r, l2] st s = Ze d 109 38 [l0, aR r, l2] (aR r :: st) s := Ze_n (i := (.aload_n 1)) (len := 1) (by decide +kernel) rfl
theorem x109_38 (h : obC r = 3) : Ze d 109 38 [l0, l1, l2] (aR r :: st) s = Ze d 109 41 [l0, l1, l2] (aR (fcn r 8) :: st) s := Ze_gf (len := 3) (idx := 152) (by decide +kernel) rfl h rfl
theorem x109_41 : Ze d 109 41 [l0, l1, aI z] st s = Ze d 109 42 [l0, l1, aI z] (aI z :: st) s := Ze_n (i := (.iload_n 2)) (len := 1) (by decide +kernel) rfl
theorem x109_42 : Ze d 109 42 [l0, aR r, l2] st s = Ze d 109 43 [l0, aR r, l2] (aR r :: st) s := Ze_n (i := (.aload_n 1)) (len := 1) (by decide +kernel) rfl
theorem x109_43 (h : obC r = 3) : Ze d 109 43 [l0, l1, l2] (aR r :: st) s = Ze d 109 46 [l0, l1, l2] (aR (fcn r 0) :: st) s := Ze_gf (len := 3) (idx := 117) (by decide +kernel) rfl h rfl
theorem x109_46 : Ze d 109 46 [l0, l1, aI z] st s = Ze d 109 47 [l0, l1, aI z] (aI z :: st) s := Ze_n (i := (.iload_n 2)) (len := 1) (by decide +kernel) rfl
theorem x109_47 (h : obC r = 8) (h6 : st.length ≤ 4) : Ze d 109 47 [l0, l1, l2] (aI a1 :: aR r :: st) s = zcI (Zc d 145 [aR r, aI a1] s) d 109 50 [l0, l1, l2] st := Ze_cvI (idx := 153) (len := 3) (as := [aI a1]) (by decide +kernel) rfl (by decide +kernel) rfl h h6
theorem x109_50 : Ze d 109 50 [l0, l1, l2] (aI a :: st) s = if a = 0 then Ze d 109 57 [l0, l1, l2] st s else Ze d 109 53 [l0, l1, l2] st s := Ze_b (i := (.ifCond .eq 7)) (len := 3) (by decide +kernel) rfl
theorem x109_53 : Ze d 109 53 [l0, l1, l2] st s = Ze d 109 54 [l0, l1, l2] (aI 0 :: st) s := Ze_n (i := (.iconst 0)) (len := 1) (by decide +kernel) rfl
theorem x109_54 : Ze d 109 54 [l0, l1, l2] st s = Ze d 109 68 [l0, l1, l2] st s := Ze_n (i := (.goto 14)) (len := 3) (by decide +kernel) rfl
theorem x109_57 : Ze d 109 57 [aR r, l1, l2] st s = Ze d 109 58 [aR r, l1, l2] (aR r :: st) s := Ze_n (i := (.aload_n 0)) (len := 1) (by decide +kernel) rfl
theorem x109_58 (h : obC r = 5) : Ze d 109 58 [l0, l1, l2] (aR r :: st) s = Ze d 109 61 [l0, l1, l2] (aR (fcn r 2) :: st) s := Ze_gf (len := 3) (idx := 9) (by decide +kernel) rfl h rfl
theorem x109_61 : Ze d 109 61 [l0, aR r, l2] st s = Ze d 109 62 [l0, aR r, l2] (aR r :: st) s := Ze_n (i := (.aload_n 1)) (len := 1) (by decide +kernel) rfl
theorem x109_62 (h : obC r = 3) : Ze d 109 62 [l0, l1, l2] (aR r :: st) s = Ze d 109 65 [l0, l1, l2] (aR (fcn r 7) :: st) s := Ze_gf (len := 3) (idx := 70) (by decide +kernel) rfl h rfl
theorem x109_65 : Ze d 109 65 [l0, l1, aI z] st s = Ze d 109 66 [l0, l1, aI z] (aI z :: st) s := Ze_n (i := (.iload_n 2)) (len := 1) (by decide +kernel) rfl
theorem x109_66 (h0 : 0 ≤ i) (h1 : i < aN1 r) : Ze d 109 66 [l0, l1, l2] (aI i :: aR r :: st) s = Ze d 109 67 [l0, l1, l2] (aI (s r i.toNat) :: st) s := Ze_n (i := .iaload) (len := 1) (by decide +kernel) (if_pos ⟨h0, h1⟩)
theorem x109_67 (h0 : 0 ≤ i) (h1 : i < aN1 r) : Ze d 109 67 [l0, l1, l2] (aI i :: aR r :: st) s = Ze d 109 68 [l0, l1, l2] (aI (s r i.toNat) :: st) s := Ze_n (i := .iaload) (len := 1) (by decide +kernel) (if_pos ⟨h0, h1⟩)
theorem x109_68 (h0 : 0 ≤ i) (h1 : i < aN1 r) : Ze d 109 68 [l0, l1, l2] (aI z :: aI i :: aR r :: st) s = Ze d 109 69 [l0, l1, l2] st (mu s r i.toNat z) := Ze_n (i := .iastore) (len := 1) (by decide +kernel) (if_pos ⟨h0, h1⟩)
theorem x109_69 : Ze d 109 69 [l0, l1, aI z] st s = Ze d 109 72 [l0, l1, aI (wrap (z + 1))] st s := Ze_n (i := (.iinc 2 1)) (len := 3) (by decide +kernel) rfl
theorem x109_72 : Ze d 109 72 [l0, l1, l2] st s = Ze d 109 2 [l0, l1, l2] st s := Ze_n (i := (.goto (-70))) (len := 3) (by decide +kernel) rfl
theorem x109_75 : Ze d 109 75 [l0, l1, l2] [] s = rV s := Ze_v (by decide +kernel) rfl
theorem en109 : Zc (d + 1) 109 [aR r, aR r1] s = Ze d 109 0 [aR r, aR r1, aU] [] s := rfl
theorem x110_0 : Ze d 110 0 [l0, l1, l2] st s = Ze d 110 1 [l0, l1, l2] (aI 0 :: st) s := Ze_n (i := (.iconst 0)) (len := 1) (by decide +kernel) rfl
theorem x110_1 : Ze d 110 1 [l0, l1, l2] (aI z :: st) s = Ze d 110 2 [l0, l1, aI z] st s := Ze_n (i := (.istore_n 2)) (len := 1) (by decide +kernel) rfl
theorem x110_2 : Ze d 110 2 [l0, l1, aI z] st s = Ze d 110 3 [l0, l1, aI z] (aI z :: st) s := Ze_n (i := (.iload_n 2)) (len := 1) (by decide +kernel) rfl
theorem x110_3 : Ze d 110 3 [l0, aR r, l2] st s = Ze d 110 4 [l0, aR r, l2] (aR r :: st) s := Ze_n (i := (.aload_n 1)) (len := 1) (by decide +kernel) rfl
theorem x110_4 (h : obC r = 3) : Ze d 110 4 [l0, l1, l2] (aR r :: st) s = Ze d 110 7 [l0, l1, l2] (aR (fcn r 0) :: st) s := Ze_gf (len := 3) (idx := 117) (by decide +kernel) rfl h rfl
theorem x110_7 (h : obC r = 8) : Ze d 110 7 [l0, l1, l2] (aR r :: st) s = Ze d 110 10 [l0, l1, l2] (aI (s r 6) :: st) s := Ze_gf (len := 3) (idx := 121) (by decide +kernel) rfl h rfl
theorem x110_10 : Ze d 110 10 [l0, l1, l2] (aI b :: aI a :: st) s = if a < b then Ze d 110 13 [l0, l1, l2] st s else Ze d 110 33 [l0, l1, l2] st s := Ze_b (i := (.if_icmp .ge 23)) (len := 3) (by decide +kernel) rfl
theorem x110_13 : Ze d 110 13 [l0, aR r, l2] st s = Ze d 110 14 [l0, aR r, l2] (aR r :: st) s := Ze_n (i := (.aload_n 1)) (len := 1) (by decide +kernel) rfl
theorem x110_14 (h : obC r = 3) : Ze d 110 14 [l0, l1, l2] (aR r :: st) s = Ze d 110 17 [l0, l1, l2] (aR (fcn r 8) :: st) s := Ze_gf (len := 3) (idx := 152) (by decide +kernel) rfl h rfl
theorem x110_17 : Ze d 110 17 [l0, l1, aI z] st s = Ze d 110 18 [l0, l1, aI z] (aI z :: st) s := Ze_n (i := (.iload_n 2)) (len := 1) (by decide +kernel) rfl
theorem x110_18 (h0 : 0 ≤ i) (h1 : i < aN1 r) : Ze d 110 18 [l0, l1, l2] (aI i :: aR r :: st) s = Ze d 110 19 [l0, l1, l2] (aI (s r i.toNat) :: st) s := Ze_n (i := .iaload) (len := 1) (by decide +kernel) (if_pos ⟨h0, h1⟩)
theorem x110_19 : Ze d 110 19 [l0, l1, l2] st s = Ze d 110 21 [l0, l1, l2] (aI 16777216 :: st) s := Ze_n (i := (.ldc 92)) (len := 2) (by decide +kernel) rfl
theorem x110_21 : Ze d 110 21 [l0, l1, l2] (aI b :: aI a :: st) s = Ze d 110 22 [l0, l1, l2] (aI (iand a b) :: st) s := Ze_n (i := .iand) (len := 1) (by decide +kernel) rfl
theorem x110_22 : Ze d 110 22 [l0, l1, l2] (aI a :: st) s = if a = 0 then Ze d 110 27 [l0, l1, l2] st s else Ze d 110 25 [l0, l1, l2] st s := Ze_b (i := (.ifCond .eq 5)) (len := 3) (by decide +kernel) rfl
theorem x110_25 : Ze d 110 25 [l0, l1, aI z] st s = Ze d 110 26 [l0, l1, aI z] (aI z :: st) s := Ze_n (i := (.iload_n 2)) (len := 1) (by decide +kernel) rfl
theorem x110_26 : Ze d 110 26 [l0, l1, l2] [aI z] s = rI z s := Ze_i1 (by decide +kernel) rfl
theorem x110_27 : Ze d 110 27 [l0, l1, aI z] st s = Ze d 110 30 [l0, l1, aI (wrap (z + 1))] st s := Ze_n (i := (.iinc 2 1)) (len := 3) (by decide +kernel) rfl
theorem x110_30 : Ze d 110 30 [l0, l1, l2] st s = Ze d 110 2 [l0, l1, l2] st s := Ze_n (i := (.goto (-28))) (len := 3) (by decide +kernel) rfl
theorem x110_33 : Ze d 110 33 [l0, l1, l2] st s = Ze d 110 34 [l0, l1, l2] (aI (-1) :: st) s := Ze_n (i := (.iconst (-1))) (len := 1) (by decide +kernel) rfl
theorem x110_34 : Ze d 110 34 [l0, l1, l2] [aI z] s = rI z s := Ze_i1 (by decide +kernel) rfl
theorem en110 : Zc (d + 1) 110 [aR r, aR r1] s = Ze d 110 0 [aR r, aR r1, aU] [] s := rfl
theorem x111_0 : Ze d 111 0 [l0, aR r, l2, l3, l4] st s = Ze d 111 1 [l0, aR r, l2, l3, l4] (aR r :: st) s := Ze_n (i := (.aload_n 1)) (len := 1) (by decide +kernel) rfl
theorem x111_1 (h : obC r = 3) : Ze d 111 1 [l0, l1, l2, l3, l4] (aR r :: st) s = Ze d 111 4 [l0, l1, l2, l3, l4] (aR (fcn r 0) :: st) s := Ze_gf (len := 3) (idx := 117) (by decide +kernel) rfl h rfl
theorem x111_4 (h : obC r = 8) : Ze d 111 4 [l0, l1, l2, l3, l4] (aR r :: st) s = Ze d 111 7 [l0, l1, l2, l3, l4] (aI (s r 6) :: st) s := Ze_gf (len := 3) (idx := 121) (by decide +kernel) rfl h rfl
theorem x111_7 : Ze d 111 7 [l0, l1, l2, l3, l4] (aI z :: st) s = Ze d 111 8 [l0, l1, aI z, l3, l4] st s := Ze_n (i := (.istore_n 2)) (len := 1) (by decide +kernel) rfl
theorem x111_8 : Ze d 111 8 [l0, l1, l2, l3, l4] st s = Ze d 111 9 [l0, l1, l2, l3, l4] (aI 0 :: st) s := Ze_n (i := (.iconst 0)) (len := 1) (by decide +kernel) rfl
theorem x111_9 : Ze d 111 9 [l0, l1, l2, l3, l4] (aI z :: st) s = Ze d 111 10 [l0, l1, l2, aI z, l4] st s := Ze_n (i := (.istore_n 3)) (len := 1) (by decide +kernel) rfl
theorem x111_10 : Ze d 111 10 [l0, l1, l2, aI z, l4] st s = Ze d 111 11 [l0, l1, l2, aI z, l4] (aI z :: st) s := Ze_n (i := (.iload_n 3)) (len := 1) (by decide +kernel) rfl
theorem x111_11 : Ze d 111 11 [l0, l1, aI z, l3, l4] st s = Ze d 111 12 [l0, l1, aI z, l3, l4] (aI z :: st) s := Ze_n (i := (.iload_n 2)) (len := 1) (by decide +kernel) rfl
theorem x111_12 : Ze d 111 12 [l0, l1, l2, l3, l4] (aI b :: aI a :: st) s = if a < b then Ze d 111 15 [l0, l1, l2, l3, l4] st s else Ze d 111 50 [l0, l1, l2, l3, l4] st s := Ze_b (i := (.if_icmp .ge 38)) (len := 3) (by decide +kernel) rfl
theorem x111_15 : Ze d 111 15 [aR r, l1, l2, l3, l4] st s = Ze d 111 16 [aR r, l1, l2, l3, l4] (aR r :: st) s := Ze_n (i := (.aload_n 0)) (len := 1) (by decide +kernel) rfl
theorem x111_16 (h : obC r = 5) : Ze d 111 16 [l0, l1, l2, l3, l4] (aR r :: st) s = Ze d 111 19 [l0, l1, l2, l3, l4] (aR (fcn r 8) :: st) s := Ze_gf (len := 3) (idx := 32) (by decide +kernel) rfl h rfl
theorem x111_19 : Ze d 111 19 [l0, l1, l2, aI z, l4] st s = Ze d 111 20 [l0, l1, l2, aI z, l4] (aI z :: st) s := Ze_n (i := (.iload_n 3)) (len := 1) (by decide +kernel) rfl
theorem x111_20 : Ze d 111 20 [l0, aR r, l2, l3, l4] st s = Ze d 111 21 [l0, aR r, l2, l3, l4] (aR r :: st) s := Ze_n (i := (.aload_n 1)) (len := 1) (by decide +kernel) rfl
theorem x111_21 (h : obC r = 3) : Ze d 111 21 [l0, l1, l2, l3, l4] (aR r :: st) s = Ze d 111 24 [l0, l1, l2, l3, l4] (aR (fcn r 0) :: st) s := Ze_gf (len := 3) (idx := 117) (by decide +kernel) rfl h rfl
theorem x111_24 (h : obC r = 8) : Ze d 111 24 [l0, l1, l2, l3, l4] (aR r :: st) s = Ze d 111 27 [l0, l1, l2, l3, l4] (aR (fcn r 0) :: st) s := Ze_gf (len := 3) (idx := 124) (by decide +kernel) rfl h rfl
theorem x111_27 : Ze d 111 27 [l0, l1, l2, aI z, l4] st s = Ze d 111 28 [l0, l1, l2, aI z, l4] (aI z :: st) s := Ze_n (i := (.iload_n 3)) (len := 1) (by decide +kernel) rfl
theorem x111_28 (h0 : 0 ≤ i) (h1 : i < aN1 r) : Ze d 111 28 [l0, l1, l2, l3, l4] (aI i :: aR r :: st) s = Ze d 111 29 [l0, l1, l2, l3, l4] (aI (s r i.toNat) :: st) s := Ze_n (i := .iaload) (len := 1) (by decide +kernel) (if_pos ⟨h0, h1⟩)
theorem x111_29 : Ze d 111 29 [l0, l1, l2, l3, l4] st s = Ze d 111 30 [l0, l1, l2, l3, l4] (aI 3 :: st) s := Ze_n (i := (.iconst 3)) (len := 1) (by decide +kernel) rfl
theorem x111_30 : Ze d 111 30 [l0, l1, l2, l3, l4] (aI b :: aI a :: st) s = if a = b then Ze d 111 33 [l0, l1, l2, l3, l4] st s else Ze d 111 37 [l0, l1, l2, l3, l4] st s := Ze_b (i := (.if_icmp .ne 7)) (len := 3) (by decide +kernel) rfl
theorem x111_33 : Ze d 111 33 [l0, l1, l2, l3, l4] st s = Ze d 111 34 [l0, l1, l2, l3, l4] (aI 0 :: st) s := Ze_n (i := (.iconst 0)) (len := 1) (by decide +kernel) rfl
theorem x111_34 : Ze d 111 34 [l0, l1, l2, l3, l4] st s = Ze d 111 43 [l0, l1, l2, l3, l4] st s := Ze_n (i := (.goto 9)) (len := 3) (by decide +kernel) rfl
theorem x111_37 : Ze d 111 37 [l0, aR r, l2, l3, l4] st s = Ze d 111 38 [l0, aR r, l2, l3, l4] (aR r :: st) s := Ze_n (i := (.aload_n 1)) (len := 1) (by decide +kernel) rfl
theorem x111_38 (h : obC r = 3) : Ze d 111 38 [l0, l1, l2, l3, l4] (aR r :: st) s = Ze d 111 41 [l0, l1, l2, l3, l4] (aR (fcn r 8) :: st) s := Ze_gf (len := 3) (idx := 152) (by decide +kernel) rfl h rfl
theorem x111_41 : Ze d 111 41 [l0, l1, l2, aI z, l4] st s = Ze d 111 42 [l0, l1, l2, aI z, l4] (aI z :: st) s := Ze_n (i := (.iload_n 3)) (len := 1) (by decide +kernel) rfl
theorem x111_42 (h0 : 0 ≤ i) (h1 : i < aN1 r) : Ze d 111 42 [l0, l1, l2, l3, l4] (aI i :: aR r :: st) s = Ze d 111 43 [l0, l1, l2, l3, l4] (aI (s r i.toNat) :: st) s := Ze_n (i := .iaload) (len := 1) (by decide +kernel) (if_pos ⟨h0, h1⟩)
theorem x111_43 (h0 : 0 ≤ i) (h1 : i < aN1 r) : Ze d 111 43 [l0, l1, l2, l3, l4] (aI z :: aI i :: aR r :: st) s = Ze d 111 44 [l0, l1, l2, l3, l4] st (mu s r i.toNat z) := Ze_n (i := .iastore) (len := 1) (by decide +kernel) (if_pos ⟨h0, h1⟩)
theorem x111_44 : Ze d 111 44 [l0, l1, l2, aI z, l4] st s = Ze d 111 47 [l0, l1, l2, aI (wrap (z + 1)), l4] st s := Ze_n (i := (.iinc 3 1)) (len := 3) (by decide +kernel) rfl
theorem x111_47 : Ze d 111 47 [l0, l1, l2, l3, l4] st s = Ze d 111 10 [l0, l1, l2, l3, l4] st s := Ze_n (i := (.goto (-37))) (len := 3) (by decide +kernel) rfl
theorem x111_50 : Ze d 111 50 [l0, l1, l2, l3, l4] st s = Ze d 111 51 [l0, l1, l2, l3, l4] (aI 0 :: st) s := Ze_n (i := (.iconst 0)) (len := 1) (by decide +kernel) rfl
theorem x111_51 : Ze d 111 51 [l0, l1, l2, l3, l4] (aI z :: st) s = Ze d 111 52 [l0, l1, l2, aI z, l4] st s := Ze_n (i := (.istore_n 3)) (len := 1) (by decide +kernel) rfl
theorem x111_52 : Ze d 111 52 [l0, l1, l2, aI z, l4] st s = Ze d 111 53 [l0, l1, l2, aI z, l4] (aI z :: st) s := Ze_n (i := (.iload_n 3)) (len := 1) (by decide +kernel) rfl
theorem x111_53 : Ze d 111 53 [l0, l1, aI z, l3, l4] st s = Ze d 111 54 [l0, l1, aI z, l3, l4] (aI z :: st) s := Ze_n (i := (.iload_n 2)) (len := 1) (by decide +kernel) rfl
theorem x111_54 : Ze d 111 54 [l0, l1, l2, l3, l4] (aI b :: aI a :: st) s = if a < b then Ze d 111 57 [l0, l1, l2, l3, l4] st s else Ze d 111 109 [l0, l1, l2, l3, l4] st s := Ze_b (i := (.if_icmp .ge 55)) (len := 3) (by decide +kernel) rfl
theorem x111_57 : Ze d 111 57 [l0, l1, l2, l3, l4] st s = Ze d 111 58 [l0, l1, l2, l3, l4] (aI 0 :: st) s := Ze_n (i := (.iconst 0)) (len := 1) (by decide +kernel) rfl
theorem x111_58 : Ze d 111 58 [l0, l1, l2, l3, l4] (aI z :: st) s = Ze d 111 60 [l0, l1, l2, l3, aI z] st s := Ze_n (i := (.istore 4)) (len := 2) (by decide +kernel) rfl
theorem x111_60 : Ze d 111 60 [l0, l1, l2, l3, aI z] st s = Ze d 111 62 [l0, l1, l2, l3, aI z] (aI z :: st) s := Ze_n (i := (.iload 4)) (len := 2) (by decide +kernel) rfl
theorem x111_62 : Ze d 111 62 [l0, l1, aI z, l3, l4] st s = Ze d 111 63 [l0, l1, aI z, l3, l4] (aI z :: st) s := Ze_n (i := (.iload_n 2)) (len := 1) (by decide +kernel) rfl
theorem x111_63 : Ze d 111 63 [l0, l1, l2, l3, l4] (aI b :: aI a :: st) s = if a < b then Ze d 111 66 [l0, l1, l2, l3, l4] st s else Ze d 111 103 [l0, l1, l2, l3, l4] st s := Ze_b (i := (.if_icmp .ge 40)) (len := 3) (by decide +kernel) rfl
theorem x111_66 : Ze d 111 66 [aR r, l1, l2, l3, l4] st s = Ze d 111 67 [aR r, l1, l2, l3, l4] (aR r :: st) s := Ze_n (i := (.aload_n 0)) (len := 1) (by decide +kernel) rfl
theorem x111_67 (h : obC r = 5) : Ze d 111 67 [l0, l1, l2, l3, l4] (aR r :: st) s = Ze d 111 70 [l0, l1, l2, l3, l4] (aR (fcn r 8) :: st) s := Ze_gf (len := 3) (idx := 32) (by decide +kernel) rfl h rfl
theorem x111_70 : Ze d 111 70 [l0, l1, l2, l3, aI z] st s = Ze d 111 72 [l0, l1, l2, l3, aI z] (aI z :: st) s := Ze_n (i := (.iload 4)) (len := 2) (by decide +kernel) rfl
theorem x111_72 (h0 : 0 ≤ i) (h1 : i < aN1 r) : Ze d 111 72 [l0, l1, l2, l3, l4] (aI i :: aR r :: st) s = Ze d 111 73 [l0, l1, l2, l3, l4] (aI (s r i.toNat) :: st) s := Ze_n (i := .iaload) (len := 1) (by decide +kernel) (if_pos ⟨h0, h1⟩)
theorem x111_73 : Ze d 111 73 [l0, l1, l2, aI z, l4] st s = Ze d 111 74 [l0, l1, l2, aI z, l4] (aI z :: st) s := Ze_n (i := (.iload_n 3)) (len := 1) (by decide +kernel) rfl
theorem x111_74 : Ze d 111 74 [l0, l1, l2, l3, l4] (aI b :: aI a :: st) s = Ze d 111 75 [l0, l1, l2, l3, l4] (aI (ishr a b) :: st) s := Ze_n (i := .ishr) (len := 1) (by decide +kernel) rfl
theorem x111_75 : Ze d 111 75 [l0, l1, l2, l3, l4] st s = Ze d 111 76 [l0, l1, l2, l3, l4] (aI 1 :: st) s := Ze_n (i := (.iconst 1)) (len := 1) (by decide +kernel) rfl
theorem x111_76 : Ze d 111 76 [l0, l1, l2, l3, l4] (aI b :: aI a :: st) s = Ze d 111 77 [l0, l1, l2, l3, l4] (aI (iand a b) :: st) s := Ze_n (i := .iand) (len := 1) (by decide +kernel) rfl
theorem x111_77 : Ze d 111 77 [l0, l1, l2, l3, l4] st s = Ze d 111 78 [l0, l1, l2, l3, l4] (aI 1 :: st) s := Ze_n (i := (.iconst 1)) (len := 1) (by decide +kernel) rfl
theorem x111_78 : Ze d 111 78 [l0, l1, l2, l3, l4] (aI b :: aI a :: st) s = if a = b then Ze d 111 81 [l0, l1, l2, l3, l4] st s else Ze d 111 97 [l0, l1, l2, l3, l4] st s := Ze_b (i := (.if_icmp .ne 19)) (len := 3) (by decide +kernel) rfl
theorem x111_81 : Ze d 111 81 [aR r, l1, l2, l3, l4] st s = Ze d 111 82 [aR r, l1, l2, l3, l4] (aR r :: st) s := Ze_n (i := (.aload_n 0)) (len := 1) (by decide +kernel) rfl
theorem x111_82 (h : obC r = 5) : Ze d 111 82 [l0, l1, l2, l3, l4] (aR r :: st) s = Ze d 111 85 [l0, l1, l2, l3, l4] (aR (fcn r 8) :: st) s := Ze_gf (len := 3) (idx := 32) (by decide +kernel) rfl h rfl
theorem x111_85 : Ze d 111 85 [l0, l1, l2, l3, aI z] st s = Ze d 111 87 [l0, l1, l2, l3, aI z] (aI z :: st) s := Ze_n (i := (.iload 4)) (len := 2) (by decide +kernel) rfl
theorem x111_87 : Ze d 111 87 [l0, l1, l2, l3, l4] (aI a :: aR r :: st) s = Ze d 111 88 [l0, l1, l2, l3, l4] (aI a :: aR r :: aI a :: aR r :: st) s := Ze_n (i := .dup2) (len := 1) (by decide +kernel) rfl
theorem x111_88 (h0 : 0 ≤ i) (h1 : i < aN1 r) : Ze d 111 88 [l0, l1, l2, l3, l4] (aI i :: aR r :: st) s = Ze d 111 89 [l0, l1, l2, l3, l4] (aI (s r i.toNat) :: st) s := Ze_n (i := .iaload) (len := 1) (by decide +kernel) (if_pos ⟨h0, h1⟩)
theorem x111_89 : Ze d 111 89 [aR r, l1, l2, l3, l4] st s = Ze d 111 90 [aR r, l1, l2, l3, l4] (aR r :: st) s := Ze_n (i := (.aload_n 0)) (len := 1) (by decide +kernel) rfl
theorem x111_90 (h : obC r = 5) : Ze d 111 90 [l0, l1, l2, l3, l4] (aR r :: st) s = Ze d 111 93 [l0, l1, l2, l3, l4] (aR (fcn r 8) :: st) s := Ze_gf (len := 3) (idx := 32) (by decide +kernel) rfl h rfl
theorem x111_93 : Ze d 111 93 [l0, l1, l2, aI z, l4] st s = Ze d 111 94 [l0, l1, l2, aI z, l4] (aI z :: st) s := Ze_n (i := (.iload_n 3)) (len := 1) (by decide +kernel) rfl
theorem x111_94 (h0 : 0 ≤ i) (h1 : i < aN1 r) : Ze d 111 94 [l0, l1, l2, l3, l4] (aI i :: aR r :: st) s = Ze d 111 95 [l0, l1, l2, l3, l4] (aI (s r i.toNat) :: st) s := Ze_n (i := .iaload) (len := 1) (by decide +kernel) (if_pos ⟨h0, h1⟩)
theorem x111_95 : Ze d 111 95 [l0, l1, l2, l3, l4] (aI b :: aI a :: st) s = Ze d 111 96 [l0, l1, l2, l3, l4] (aI (ior a b) :: st) s := Ze_n (i := .ior) (len := 1) (by decide +kernel) rfl
theorem x111_96 (h0 : 0 ≤ i) (h1 : i < aN1 r) : Ze d 111 96 [l0, l1, l2, l3, l4] (aI z :: aI i :: aR r :: st) s = Ze d 111 97 [l0, l1, l2, l3, l4] st (mu s r i.toNat z) := Ze_n (i := .iastore) (len := 1) (by decide +kernel) (if_pos ⟨h0, h1⟩)
theorem x111_97 : Ze d 111 97 [l0, l1, l2, l3, aI z] st s = Ze d 111 100 [l0, l1, l2, l3, aI (wrap (z + 1))] st s := Ze_n (i := (.iinc 4 1)) (len := 3) (by decide +kernel) rfl
theorem x111_100 : Ze d 111 100 [l0, l1, l2, l3, l4] st s = Ze d 111 60 [l0, l1, l2, l3, l4] st s := Ze_n (i := (.goto (-40))) (len := 3) (by decide +kernel) rfl
theorem x111_103 : Ze d 111 103 [l0, l1, l2, aI z, l4] st s = Ze d 111 106 [l0, l1, l2, aI (wrap (z + 1)), l4] st s := Ze_n (i := (.iinc 3 1)) (len := 3) (by decide +kernel) rfl
theorem x111_106 : Ze d 111 106 [l0, l1, l2, l3, l4] st s = Ze d 111 52 [l0, l1, l2, l3, l4] st s := Ze_n (i := (.goto (-54))) (len := 3) (by decide +kernel) rfl
theorem x111_109 : Ze d 111 109 [l0, l1, l2, l3, l4] st s = Ze d 111 110 [l0, l1, l2, l3, l4] (aI 0 :: st) s := Ze_n (i := (.iconst 0)) (len := 1) (by decide +kernel) rfl
theorem x111_110 : Ze d 111 110 [l0, l1, l2, l3, l4] (aI z :: st) s = Ze d 111 111 [l0, l1, l2, aI z, l4] st s := Ze_n (i := (.istore_n 3)) (len := 1) (by decide +kernel) rfl
theorem x111_111 : Ze d 111 111 [l0, l1, l2, aI z, l4] st s = Ze d 111 112 [l0, l1, l2, aI z, l4] (aI z :: st) s := Ze_n (i := (.iload_n 3)) (len := 1) (by decide +kernel) rfl
theorem x111_112 : Ze d 111 112 [l0, l1, aI z, l3, l4] st s = Ze d 111 113 [l0, l1, aI z, l3, l4] (aI z :: st) s := Ze_n (i := (.iload_n 2)) (len := 1) (by decide +kernel) rfl
theorem x111_113 : Ze d 111 113 [l0, l1, l2, l3, l4] (aI b :: aI a :: st) s = if a < b then Ze d 111 116 [l0, l1, l2, l3, l4] st s else Ze d 111 138 [l0, l1, l2, l3, l4] st s := Ze_b (i := (.if_icmp .ge 25)) (len := 3) (by decide +kernel) rfl
theorem x111_116 : Ze d 111 116 [aR r, l1, l2, l3, l4] st s = Ze d 111 117 [aR r, l1, l2, l3, l4] (aR r :: st) s := Ze_n (i := (.aload_n 0)) (len := 1) (by decide +kernel) rfl
theorem x111_117 (h : obC r = 5) : Ze d 111 117 [l0, l1, l2, l3, l4] (aR r :: st) s = Ze d 111 120 [l0, l1, l2, l3, l4] (aR (fcn r 8) :: st) s := Ze_gf (len := 3) (idx := 32) (by decide +kernel) rfl h rfl
theorem x111_120 : Ze d 111 120 [l0, l1, l2, aI z, l4] st s = Ze d 111 121 [l0, l1, l2, aI z, l4] (aI z :: st) s := Ze_n (i := (.iload_n 3)) (len := 1) (by decide +kernel) rfl
theorem x111_121 (h0 : 0 ≤ i) (h1 : i < aN1 r) : Ze d 111 121 [l0, l1, l2, l3, l4] (aI i :: aR r :: st) s = Ze d 111 122 [l0, l1, l2, l3, l4] (aI (s r i.toNat) :: st) s := Ze_n (i := .iaload) (len := 1) (by decide +kernel) (if_pos ⟨h0, h1⟩)
theorem x111_122 : Ze d 111 122 [l0, l1, l2, aI z, l4] st s = Ze d 111 123 [l0, l1, l2, aI z, l4] (aI z :: st) s := Ze_n (i := (.iload_n 3)) (len := 1) (by decide +kernel) rfl
theorem x111_123 : Ze d 111 123 [l0, l1, l2, l3, l4] (aI b :: aI a :: st) s = Ze d 111 124 [l0, l1, l2, l3, l4] (aI (ishr a b) :: st) s := Ze_n (i := .ishr) (len := 1) (by decide +kernel) rfl
theorem x111_124 : Ze d 111 124 [l0, l1, l2, l3, l4] st s = Ze d 111 125 [l0, l1, l2, l3, l4] (aI 1 :: st) s := Ze_n (i := (.iconst 1)) (len := 1) (by decide +kernel) rfl
theorem x111_125 : Ze d 111 125 [l0, l1, l2, l3, l4] (aI b :: aI a :: st) s = Ze d 111 126 [l0, l1, l2, l3, l4] (aI (iand a b) :: st) s := Ze_n (i := .iand) (len := 1) (by decide +kernel) rfl
theorem x111_126 : Ze d 111 126 [l0, l1, l2, l3, l4] st s = Ze d 111 127 [l0, l1, l2, l3, l4] (aI 1 :: st) s := Ze_n (i := (.iconst 1)) (len := 1) (by decide +kernel) rfl
theorem x111_127 : Ze d 111 127 [l0, l1, l2, l3, l4] (aI b :: aI a :: st) s = if a = b then Ze d 111 130 [l0, l1, l2, l3, l4] st s else Ze d 111 132 [l0, l1, l2, l3, l4] st s := Ze_b (i := (.if_icmp .ne 5)) (len := 3) (by decide +kernel) rfl
theorem x111_130 : Ze d 111 130 [l0, l1, l2, aI z, l4] st s = Ze d 111 131 [l0, l1, l2, aI z, l4] (aI z :: st) s := Ze_n (i := (.iload_n 3)) (len := 1) (by decide +kernel) rfl
theorem x111_131 : Ze d 111 131 [l0, l1, l2, l3, l4] [aI z] s = rI z s := Ze_i1 (by decide +kernel) rfl
theorem x111_132 : Ze d 111 132 [l0, l1, l2, aI z, l4] st s = Ze d 111 135 [l0, l1, l2, aI (wrap (z + 1)), l4] st s := Ze_n (i := (.iinc 3 1)) (len := 3) (by decide +kernel) rfl
theorem x111_135 : Ze d 111 135 [l0, l1, l2, l3, l4] st s = Ze d 111 111 [l0, l1, l2, l3, l4] st s := Ze_n (i := (.goto (-24))) (len := 3) (by decide +kernel) rfl
theorem x111_138 : Ze d 111 138 [l0, l1, l2, l3, l4] st s = Ze d 111 139 [l0, l1, l2, l3, l4] (aI (-1) :: st) s := Ze_n (i := (.iconst (-1))) (len := 1) (by decide +kernel) rfl
theorem x111_139 : Ze d 111 139 [l0, l1, l2, l3, l4] [aI z] s = rI z s := Ze_i1 (by decide +kernel) rfl
theorem en111 : Zc (d + 1) 111 [aR r, aR r1] s = Ze d 111 0 [aR r, aR r1, aU, aU, aU] [] s := rfl
theorem x91_0 : Ze d 91 0 [aR r, l1, l2, l3, l4] st s = Ze d 91 1 [aR r, l1, l2, l3, l4] (aR r :: st) s := Ze_n (i := (.aload_n 0)) (len := 1) (by decide +kernel) rfl
theorem x91_1 (h : obC r = 3) : Ze d 91 1 [l0, l1, l2, l3, l4] (aR r :: st) s = Ze d 91 4 [l0, l1, l2, l3, l4] (aI (s r 6) :: st) s := Ze_gf (len := 3) (idx := 60) (by decide +kernel) rfl h rfl
theorem x91_4 : Ze d 91 4 [l0, l1, l2, l3, l4] (aI z :: st) s = Ze d 91 6 [l0, l1, l2, l3, aI z] st s := Ze_n (i := (.istore 4)) (len := 2) (by decide +kernel) rfl
theorem x91_6 : Ze d 91 6 [aR r, l1, l2, l3, l4] st s = Ze d 91 7 [aR r, l1, l2, l3, l4] (aR r :: st) s := Ze_n (i := (.aload_n 0)) (len := 1) (by decide +kernel) rfl
theorem x91_7 (h : obC r = 3) : Ze d 91 7 [l0, l1, l2, l3, l4] (aR r :: st) s = Ze d 91 10 [l0, l1, l2, l3, l4] (aR (fcn r 3) :: st) s := Ze_gf (len := 3) (idx := 25) (by decide +kernel) rfl h rfl
theorem x91_10 : Ze d 91 10 [l0, l1, l2, l3, aI z] st s = Ze d 91 12 [l0, l1, l2, l3, aI z] (aI z :: st) s := Ze_n (i := (.iload 4)) (len := 2) (by decide +kernel) rfl
theorem x91_12 : Ze d 91 12 [l0, aI z, l2, l3, l4] st s = Ze d 91 13 [l0, aI z, l2, l3, l4] (aI z :: st) s := Ze_n (i := (.iload_n 1)) (len := 1) (by decide +kernel) rfl
theorem x91_13 (h0 : 0 ≤ i) (h1 : i < aN1 r) : Ze d 91 13 [l0, l1, l2, l3, l4] (aI z :: aI i :: aR r :: st) s = Ze d 91 14 [l0, l1, l2, l3, l4] st (mu s r i.toNat z) := Ze_n (i := .iastore) (len := 1) (by decide +kernel) (if_pos ⟨h0, h1⟩)
theorem x91_14 : Ze d 91 14 [aR r, l1, l2, l3, l4] st s = Ze d 91 15 [aR r, l1, l2, l3, l4] (aR r :: st) s := Ze_n (i := (.aload_n 0)) (len := 1) (by decide +kernel) rfl
theorem x91_15 (h : obC r = 3) : Ze d 91 15 [l0, l1, l2, l3, l4] (aR r :: st) s = Ze d 91 18 [l0, l1, l2, l3, l4] (aR (fcn r 4) :: st) s := Ze_gf (len := 3) (idx := 29) (by decide +kernel) rfl h rfl
theorem x91_18 : Ze d 91 18 [l0, l1, l2, l3, aI z] st s = Ze d 91 20 [l0, l1, l2, l3, aI z] (aI z :: st) s := Ze_n (i := (.iload 4)) (len := 2) (by decide +kernel) rfl
theorem x91_20 : Ze d 91 20 [l0, l1, aI z, l3, l4] st s = Ze d 91 21 [l0, l1, aI z, l3, l4] (aI z :: st) s := Ze_n (i := (.iload_n 2)) (len := 1) (by decide +kernel) rfl
theorem x91_21 (h0 : 0 ≤ i) (h1 : i < aN1 r) : Ze d 91 21 [l0, l1, l2, l3, l4] (aI z :: aI i :: aR r :: st) s = Ze d 91 22 [l0, l1, l2, l3, l4] st (mu s r i.toNat z) := Ze_n (i := .iastore) (len := 1) (by decide +kernel) (if_pos ⟨h0, h1⟩)
theorem x91_22 : Ze d 91 22 [aR r, l1, l2, l3, l4] st s = Ze d 91 23 [aR r, l1, l2, l3, l4] (aR r :: st) s := Ze_n (i := (.aload_n 0)) (len := 1) (by decide +kernel) rfl
theorem x91_23 (h : obC r = 3) : Ze d 91 23 [l0, l1, l2, l3, l4] (aR r :: st) s = Ze d 91 26 [l0, l1, l2, l3, l4] (aR (fcn r 5) :: st) s := Ze_gf (len := 3) (idx := 32) (by decide +kernel) rfl h rfl
theorem x91_26 : Ze d 91 26 [l0, l1, l2, l3, aI z] st s = Ze d 91 28 [l0, l1, l2, l3, aI z] (aI z :: st) s := Ze_n (i := (.iload 4)) (len := 2) (by decide +kernel) rfl
theorem x91_28 : Ze d 91 28 [l0, l1, l2, aI z, l4] st s = Ze d 91 29 [l0, l1, l2, aI z, l4] (aI z :: st) s := Ze_n (i := (.iload_n 3)) (len := 1) (by decide +kernel) rfl
theorem x91_29 (h0 : 0 ≤ i) (h1 : i < aN1 r) : Ze d 91 29 [l0, l1, l2, l3, l4] (aI z :: aI i :: aR r :: st) s = Ze d 91 30 [l0, l1, l2, l3, l4] st (mu s r i.toNat z) := Ze_n (i := .iastore) (len := 1) (by decide +kernel) (if_pos ⟨h0, h1⟩)
theorem x91_30 : Ze d 91 30 [aR r, l1, l2, l3, l4] st s = Ze d 91 31 [aR r, l1, l2, l3, l4] (aR r :: st) s := Ze_n (i := (.aload_n 0)) (len := 1) (by decide +kernel) rfl
theorem x91_31 : Ze d 91 31 [l0, l1, l2, l3, l4] (aR r :: st) s = Ze d 91 32 [l0, l1, l2, l3, l4] (aR r :: aR r :: st) s := Ze_n (i := .dup) (len := 1) (by decide +kernel) rfl
theorem x91_31i : Ze d 91 31 [l0, l1, l2, l3, l4] (aI a :: st) s = Ze d 91 32 [l0, l1, l2, l3, l4] (aI a :: aI a :: st) s := Ze_n (i := .dup) (len := 1) (by decide +kernel) rfl
theorem x91_32 (h : obC r = 3) : Ze d 91 32 [l0, l1, l2, l3, l4] (aR r :: st) s = Ze d 91 35 [l0, l1, l2, l3, l4] (aI (s r 6) :: st) s := Ze_gf (len := 3) (idx := 60) (by decide +kernel) rfl h rfl
theorem x91_35 : Ze d 91 35 [l0, l1, l2, l3, l4] st s = Ze d 91 36 [l0, l1, l2, l3, l4] (aI 1 :: st) s := Ze_n (i := (.iconst 1)) (len := 1) (by decide +kernel) rfl
theorem x91_36 : Ze d 91 36 [l0, l1, l2, l3, l4] (aI b :: aI a :: st) s = Ze d 91 37 [l0, l1, l2, l3, l4] (aI (wrap (a + b)) :: st) s := Ze_n (i := .iadd) (len := 1) (by decide +kernel) rfl
theorem x91_37 (h : obC r = 3) : Ze d 91 37 [l0, l1, l2, l3, l4] (aI z :: aR r :: st) s = Ze d 91 40 [l0, l1, l2, l3, l4] st (mu s r 6 z) := Ze_n (i := .putfield 60) (len := 3) (by decide +kernel) (if_pos h)
theorem x91_40 : Ze d 91 40 [l0, l1, l2, l3, l4] st s = Ze d 91 43 [l0, l1, l2, l3, l4] (aI 225 :: st) s := Ze_n (i := (.sipush 225)) (len := 3) (by decide +kernel) rfl
theorem x91_43 : Ze d 91 43 [l0, l1, l2, l3, aI z] st s = Ze d 91 45 [l0, l1, l2, l3, aI z] (aI z :: st) s := Ze_n (i := (.iload 4)) (len := 2) (by decide +kernel) rfl
theorem x91_45 : Ze d 91 45 [l0, l1, l2, l3, l4] (aI b :: aI a :: st) s = Ze d 91 46 [l0, l1, l2, l3, l4] (aI (wrap (a + b)) :: st) s := Ze_n (i := .iadd) (len := 1) (by decide +kernel) rfl
theorem x91_46 : Ze d 91 46 [l0, l1, l2, l3, l4] [aI z] s = rI z s := Ze_i1 (by decide +kernel) rfl
theorem en91 : Zc (d + 1) 91 [aR r, aI a1, aI a2, aI a3] s = Ze d 91 0 [aR r, aI a1, aI a2, aI a3, aU] [] s := rfl
