variable {d r q : Nat} {l0 l1 l2 l3 l4 l5 l6 l7 l8 l9 l10 l11 l12 l13 l14 l15 : AV} {st : List AV} {s : Mem} {a b z i n dp sp a0 a1 a2 a3 a4 a5 a6 : Int} {r0 r1 r2 r3 r4 : Nat}
theorem x123_0 : Ze d 123 0 [aR r, l1, l2] st s = Ze d 123 1 [aR r, l1, l2] (aR r :: st) s := Ze_n (i := (.aload_n 0)) (len := 1) (by decide +kernel) rfl
theorem x123_1 : Ze d 123 1 [l0, aR r, l2] st s = Ze d 123 2 [l0, aR r, l2] (aR r :: st) s := Ze_n (i := (.aload_n 1)) (len := 1) (by decide +kernel) rfl
theorem x123_2 (h : obC r = 7) (h6 : st.length ≤ 4) : Ze d 123 2 [l0, l1, l2] (aR r1 :: aR r :: st) s = zcV (Zc d 124 [aR r, aR r1] s) d 123 5 [l0, l1, l2] st := Ze_cvV (idx := 27) (len := 3) (as := [aR r1]) (by decide +kernel) rfl (by decide +kernel) rfl h h6
theorem x123_5 : Ze d 123 5 [l0, l1, l2] st s = Ze d 123 6 [l0, l1, l2] (aI 0 :: st) s := Ze_n (i := (.iconst 0)) (len := 1) (by decide +kernel) rfl
theorem x123_6 : Ze d 123 6 [l0, l1, l2] (aI z :: st) s = Ze d 123 7 [l0, l1, aI z] st s := Ze_n (i := (.istore_n 2)) (len := 1) (by decide +kernel) rfl
theorem x123_7 : Ze d 123 7 [l0, l1, aI z] st s = Ze d 123 8 [l0, l1, aI z] (aI z :: st) s := Ze_n (i := (.iload_n 2)) (len := 1) (by decide +kernel) rfl
theorem x123_8 : Ze d 123 8 [l0, l1, l2] st s = Ze d 123 11 [l0, l1, l2] (aI 200 :: st) s := Ze_n (i := (.sipush 200)) (len := 3) (by decide +kernel) rfl
theorem x123_11 : Ze d 123 11 [l0, l1, l2] (aI b :: aI a :: st) s = if b < a then Ze d 123 146 [l0, l1, l2] st s else Ze d 123 14 [l0, l1, l2] st s := Ze_b (i := (.if_icmp .gt 135)) (len := 3) (by decide +kernel) rfl
theorem x123_14 : Ze d 123 14 [aR r, l1, l2] st s = Ze d 123 15 [aR r, l1, l2] (aR r :: st) s := Ze_n (i := (.aload_n 0)) (len := 1) (by decide +kernel) rfl
theorem x123_15 (h : obC r = 7) : Ze d 123 15 [l0, l1, l2] (aR r :: st) s = Ze d 123 18 [l0, l1, l2] (aI (s r 5) :: st) s := Ze_gf (len := 3) (idx := 31) (by decide +kernel) rfl h rfl
theorem x123_18 : Ze d 123 18 [l0, l1, l2] st s = Ze d 123 19 [l0, l1, l2] (aI (-1) :: st) s := Ze_n (i := (.iconst (-1))) (len := 1) (by decide +kernel) rfl
theorem x123_19 : Ze d 123 19 [l0, l1, l2] (aI b :: aI a :: st) s = if a = b then Ze d 123 22 [l0, l1, l2] st s else Ze d 123 146 [l0, l1, l2] st s := Ze_b (i := (.if_icmp .ne 127)) (len := 3) (by decide +kernel) rfl
theorem x123_22 : Ze d 123 22 [aR r, l1, l2] st s = Ze d 123 23 [aR r, l1, l2] (aR r :: st) s := Ze_n (i := (.aload_n 0)) (len := 1) (by decide +kernel) rfl
theorem x123_23 (h : obC r = 7) : Ze d 123 23 [l0, l1, l2] (aR r :: st) s = Ze d 123 26 [l0, l1, l2] (aI (s r 6) :: st) s := Ze_gf (len := 3) (idx := 35) (by decide +kernel) rfl h rfl
theorem x123_26 : Ze d 123 26 [l0, l1, l2] (aI a :: st) s = if 0 < a then Ze d 123 36 [l0, l1, l2] st s else Ze d 123 29 [l0, l1, l2] st s := Ze_b (i := (.ifCond .gt 10)) (len := 3) (by decide +kernel) rfl
theorem x123_29 : Ze d 123 29 [aR r, l1, l2] st s = Ze d 123 30 [aR r, l1, l2] (aR r :: st) s := Ze_n (i := (.aload_n 0)) (len := 1) (by decide +kernel) rfl
theorem x123_30 (h : obC r = 7) (h6 : st.length ≤ 4) : Ze d 123 30 [l0, l1, l2] (aR r :: st) s = zcI (Zc d 138 [aR r] s) d 123 33 [l0, l1, l2] st := Ze_cvI (idx := 38) (len := 3) (as := []) (by decide +kernel) rfl (by decide +kernel) rfl h h6
theorem x123_33 : Ze d 123 33 [l0, l1, l2] (aI a :: st) s = if a = 0 then Ze d 123 146 [l0, l1, l2] st s else Ze d 123 36 [l0, l1, l2] st s := Ze_b (i := (.ifCond .eq 113)) (len := 3) (by decide +kernel) rfl
theorem x123_36 : Ze d 123 36 [aR r, l1, l2] st s = Ze d 123 37 [aR r, l1, l2] (aR r :: st) s := Ze_n (i := (.aload_n 0)) (len := 1) (by decide +kernel) rfl
theorem x123_37 (h : obC r = 7) (h6 : st.length ≤ 4) : Ze d 123 37 [l0, l1, l2] (aR r :: st) s = zcI (Zc d 138 [aR r] s) d 123 40 [l0, l1, l2] st := Ze_cvI (idx := 38) (len := 3) (as := []) (by decide +kernel) rfl (by decide +kernel) rfl h h6
theorem x123_40 : Ze d 123 40 [l0, l1, l2] (aI a :: st) s = if a = 63 then Ze d 123 108 [l0, l1, l2] st s else if a = 73 then Ze d 123 122 [l0, l1, l2] st s else if a = 78 then Ze d 123 129 [l0, l1, l2] st s else if a = 79 then Ze d 123 122 [l0, l1, l2] st s else if a = 82 then Ze d 123 122 [l0, l1, l2] st s else if a = 87 then Ze d 123 122 [l0, l1, l2] st s else if a = 125 then Ze d 123 115 [l0, l1, l2] st s else Ze d 123 136 [l0, l1, l2] st s :=
  Ze_lk (dflt := 96) (ps := #[(63, 68), (73, 82), (78, 89), (79, 82), (82, 82), (87, 82), (125, 75)]) (len := 68) (ks := [(63, 108), (73, 122), (78, 129), (79, 122), (82, 122), (87, 122), (125, 115)]) (df := 136) (by decide +kernel) (by decide +kernel) (by decide +kernel)
theorem x123_108 : Ze d 123 108 [aR r, l1, l2] st s = Ze d 123 109 [aR r, l1, l2] (aR r :: st) s := Ze_n (i := (.aload_n 0)) (len := 1) (by decide +kernel) rfl
theorem x123_109 (h : obC r = 7) (h6 : st.length ≤ 4) : Ze d 123 109 [l0, l1, l2] (aR r :: st) s = zcV (Zc d 128 [aR r] s) d 123 112 [l0, l1, l2] st := Ze_cvV (idx := 42) (len := 3) (as := []) (by decide +kernel) rfl (by decide +kernel) rfl h h6
theorem x123_112 : Ze d 123 112 [l0, l1, l2] st s = Ze d 123 140 [l0, l1, l2] st s := Ze_n (i := (.goto 28)) (len := 3) (by decide +kernel) rfl
theorem x123_115 : Ze d 123 115 [aR r, l1, l2] st s = Ze d 123 116 [aR r, l1, l2] (aR r :: st) s := Ze_n (i := (.aload_n 0)) (len := 1) (by decide +kernel) rfl
theorem x123_116 (h : obC r = 7) (h6 : st.length ≤ 4) : Ze d 123 116 [l0, l1, l2] (aR r :: st) s = zcV (Zc d 129 [aR r] s) d 123 119 [l0, l1, l2] st := Ze_cvV (idx := 45) (len := 3) (as := []) (by decide +kernel) rfl (by decide +kernel) rfl h h6
theorem x123_119 : Ze d 123 119 [l0, l1, l2] st s = Ze d 123 140 [l0, l1, l2] st s := Ze_n (i := (.goto 21)) (len := 3) (by decide +kernel) rfl
theorem x123_122 : Ze d 123 122 [aR r, l1, l2] st s = Ze d 123 123 [aR r, l1, l2] (aR r :: st) s := Ze_n (i := (.aload_n 0)) (len := 1) (by decide +kernel) rfl
theorem x123_123 (h : obC r = 7) (h6 : st.length ≤ 4) : Ze d 123 123 [l0, l1, l2] (aR r :: st) s = zcV (Zc d 125 [aR r] s) d 123 126 [l0, l1, l2] st := Ze_cvV (idx := 48) (len := 3) (as := []) (by decide +kernel) rfl (by decide +kernel) rfl h h6
theorem x123_126 : Ze d 123 126 [l0, l1, l2] st s = Ze d 123 140 [l0, l1, l2] st s := Ze_n (i := (.goto 14)) (len := 3) (by decide +kernel) rfl
theorem x123_129 : Ze d 123 129 [aR r, l1, l2] st s = Ze d 123 130 [aR r, l1, l2] (aR r :: st) s := Ze_n (i := (.aload_n 0)) (len := 1) (by decide +kernel) rfl
theorem x123_130 (h : obC r = 7) (h6 : st.length ≤ 4) : Ze d 123 130 [l0, l1, l2] (aR r :: st) s = zcV (Zc d 126 [aR r] s) d 123 133 [l0, l1, l2] st := Ze_cvV (idx := 51) (len := 3) (as := []) (by decide +kernel) rfl (by decide +kernel) rfl h h6
theorem x123_133 : Ze d 123 133 [l0, l1, l2] st s = Ze d 123 140 [l0, l1, l2] st s := Ze_n (i := (.goto 7)) (len := 3) (by decide +kernel) rfl
theorem x123_136 : Ze d 123 136 [aR r, l1, l2] st s = Ze d 123 137 [aR r, l1, l2] (aR r :: st) s := Ze_n (i := (.aload_n 0)) (len := 1) (by decide +kernel) rfl
theorem x123_137 (h : obC r = 7) (h6 : st.length ≤ 4) : Ze d 123 137 [l0, l1, l2] (aR r :: st) s = zcV (Zc d 127 [aR r] s) d 123 140 [l0, l1, l2] st := Ze_cvV (idx := 54) (len := 3) (as := []) (by decide +kernel) rfl (by decide +kernel) rfl h h6
theorem x123_140 : Ze d 123 140 [l0, l1, aI z] st s = Ze d 123 143 [l0, l1, aI (wrap (z + 1))] st s := Ze_n (i := (.iinc 2 1)) (len := 3) (by decide +kernel) rfl
theorem x123_143 : Ze d 123 143 [l0, l1, l2] st s = Ze d 123 7 [l0, l1, l2] st s := Ze_n (i := (.goto (-136))) (len := 3) (by decide +kernel) rfl
theorem x123_146 : Ze d 123 146 [aR r, l1, l2] st s = Ze d 123 147 [aR r, l1, l2] (aR r :: st) s := Ze_n (i := (.aload_n 0)) (len := 1) (by decide +kernel) rfl
theorem x123_147 (h : obC r = 7) : Ze d 123 147 [l0, l1, l2] (aR r :: st) s = Ze d 123 150 [l0, l1, l2] (aI (s r 5) :: st) s := Ze_gf (len := 3) (idx := 31) (by decide +kernel) rfl h rfl
theorem x123_150 : Ze d 123 150 [l0, l1, l2] [aI z] s = rI z s := Ze_i1 (by decide +kernel) rfl
theorem en123 : Zc (d + 1) 123 [aR r, aR r1] s = Ze d 123 0 [aR r, aR r1, aU] [] s := rfl
theorem x125_0 : Ze d 125 0 [aR r, l1, l2, l3, l4] st s = Ze d 125 1 [aR r, l1, l2, l3, l4] (aR r :: st) s := Ze_n (i := (.aload_n 0)) (len := 1) (by decide +kernel) rfl
theorem x125_1 (h : obC r = 7) : Ze d 125 1 [l0, l1, l2, l3, l4] (aR r :: st) s = Ze d 125 4 [l0, l1, l2, l3, l4] (aI (s r 6) :: st) s := Ze_gf (len := 3) (idx := 35) (by decide +kernel) rfl h rfl
theorem x125_4 : Ze d 125 4 [l0, l1, l2, l3, l4] (aI a :: st) s = if 0 < a then Ze d 125 7 [l0, l1, l2, l3, l4] st s else Ze d 125 13 [l0, l1, l2, l3, l4] st s := Ze_b (i := (.ifCond .le 9)) (len := 3) (by decide +kernel) rfl
theorem x125_7 : Ze d 125 7 [aR r, l1, l2, l3, l4] st s = Ze d 125 8 [aR r, l1, l2, l3, l4] (aR r :: st) s := Ze_n (i := (.aload_n 0)) (len := 1) (by decide +kernel) rfl
theorem x125_8 (h : obC r = 7) (h6 : st.length ≤ 4) : Ze d 125 8 [l0, l1, l2, l3, l4] (aR r :: st) s = zcI (Zc d 142 [aR r] s) d 125 11 [l0, l1, l2, l3, l4] st := Ze_cvI (idx := 75) (len := 3) (as := []) (by decide +kernel) rfl (by decide +kernel) rfl h h6
theorem x125_11 : Ze d 125 11 [l0, l1, l2, l3, l4] (aI a :: st) s = Ze d 125 12 [l0, l1, l2, l3, l4] st s := Ze_n (i := .pop) (len := 1) (by decide +kernel) rfl
theorem x125_12 : Ze d 125 12 [l0, l1, l2, l3, l4] [] s = rV s := Ze_v (by decide +kernel) rfl
theorem x125_13 : Ze d 125 13 [aR r, l1, l2, l3, l4] st s = Ze d 125 14 [aR r, l1, l2, l3, l4] (aR r :: st) s := Ze_n (i := (.aload_n 0)) (len := 1) (by decide +kernel) rfl
theorem x125_14 (h : obC r = 7) (h6 : st.length ≤ 4) : Ze d 125 14 [l0, l1, l2, l3, l4] (aR r :: st) s = zcI (Zc d 138 [aR r] s) d 125 17 [l0, l1, l2, l3, l4] st := Ze_cvI (idx := 38) (len := 3) (as := []) (by decide +kernel) rfl (by decide +kernel) rfl h h6
theorem x125_17 : Ze d 125 17 [l0, l1, l2, l3, l4] (aI z :: st) s = Ze d 125 18 [l0, aI z, l2, l3, l4] st s := Ze_n (i := (.istore_n 1)) (len := 1) (by decide +kernel) rfl
theorem x125_18 : Ze d 125 18 [aR r, l1, l2, l3, l4] st s = Ze d 125 19 [aR r, l1, l2, l3, l4] (aR r :: st) s := Ze_n (i := (.aload_n 0)) (len := 1) (by decide +kernel) rfl
theorem x125_19 (h : obC r = 7) : Ze d 125 19 [l0, l1, l2, l3, l4] (aR r :: st) s = Ze d 125 22 [l0, l1, l2, l3, l4] (aR (fcn r 0) :: st) s := Ze_gf (len := 3) (idx := 15) (by decide +kernel) rfl h rfl
theorem x125_22 (h : obC r = 11) : Ze d 125 22 [l0, l1, l2, l3, l4] (aR r :: st) s = Ze d 125 25 [l0, l1, l2, l3, l4] (aR (fcn r 1) :: st) s := Ze_gf (len := 3) (idx := 78) (by decide +kernel) rfl h rfl
theorem x125_25 : Ze d 125 25 [aR r, l1, l2, l3, l4] st s = Ze d 125 26 [aR r, l1, l2, l3, l4] (aR r :: st) s := Ze_n (i := (.aload_n 0)) (len := 1) (by decide +kernel) rfl
theorem x125_26 (h : obC r = 7) : Ze d 125 26 [l0, l1, l2, l3, l4] (aR r :: st) s = Ze d 125 29 [l0, l1, l2, l3, l4] (aI (s r 4) :: st) s := Ze_gf (len := 3) (idx := 72) (by decide +kernel) rfl h rfl
theorem x125_29 (h0 : 0 ≤ i) (h1 : i < aN1 r) : Ze d 125 29 [l0, l1, l2, l3, l4] (aI i :: aR r :: st) s = Ze d 125 30 [l0, l1, l2, l3, l4] (aI (s r i.toNat) :: st) s := Ze_n (i := .iaload) (len := 1) (by decide +kernel) (if_pos ⟨h0, h1⟩)
theorem x125_30 : Ze d 125 30 [l0, l1, l2, l3, l4] (aI z :: st) s = Ze d 125 31 [l0, l1, aI z, l3, l4] st s := Ze_n (i := (.istore_n 2)) (len := 1) (by decide +kernel) rfl
theorem x125_31 : Ze d 125 31 [aR r, l1, l2, l3, l4] st s = Ze d 125 32 [aR r, l1, l2, l3, l4] (aR r :: st) s := Ze_n (i := (.aload_n 0)) (len := 1) (by decide +kernel) rfl
theorem x125_32 : Ze d 125 32 [l0, l1, l2, l3, l4] (aR r :: st) s = Ze d 125 33 [l0, l1, l2, l3, l4] (aR r :: aR r :: st) s := Ze_n (i := .dup) (len := 1) (by decide +kernel) rfl
theorem x125_32i : Ze d 125 32 [l0, l1, l2, l3, l4] (aI a :: st) s = Ze d 125 33 [l0, l1, l2, l3, l4] (aI a :: aI a :: st) s := Ze_n (i := .dup) (len := 1) (by decide +kernel) rfl
theorem x125_33 (h : obC r = 7) : Ze d 125 33 [l0, l1, l2, l3, l4] (aR r :: st) s = Ze d 125 36 [l0, l1, l2, l3, l4] (aI (s r 4) :: st) s := Ze_gf (len := 3) (idx := 72) (by decide +kernel) rfl h rfl
theorem x125_36 : Ze d 125 36 [l0, l1, l2, l3, l4] st s = Ze d 125 37 [l0, l1, l2, l3, l4] (aI 1 :: st) s := Ze_n (i := (.iconst 1)) (len := 1) (by decide +kernel) rfl
theorem x125_37 : Ze d 125 37 [l0, l1, l2, l3, l4] (aI b :: aI a :: st) s = Ze d 125 38 [l0, l1, l2, l3, l4] (aI (wrap (a + b)) :: st) s := Ze_n (i := .iadd) (len := 1) (by decide +kernel) rfl
theorem x125_38 (h : obC r = 7) : Ze d 125 38 [l0, l1, l2, l3, l4] (aI z :: aR r :: st) s = Ze d 125 41 [l0, l1, l2, l3, l4] st (mu s r 4 z) := Ze_n (i := .putfield 72) (len := 3) (by decide +kernel) (if_pos h)
theorem x125_41 : Ze d 125 41 [aR r, l1, l2, l3, l4] st s = Ze d 125 42 [aR r, l1, l2, l3, l4] (aR r :: st) s := Ze_n (i := (.aload_n 0)) (len := 1) (by decide +kernel) rfl
theorem x125_42 (h : obC r = 7) (h6 : st.length ≤ 4) : Ze d 125 42 [l0, l1, l2, l3, l4] (aR r :: st) s = zcI (Zc d 139 [aR r] s) d 125 45 [l0, l1, l2, l3, l4] st := Ze_cvI (idx := 84) (len := 3) (as := []) (by decide +kernel) rfl (by decide +kernel) rfl h h6
theorem x125_45 : Ze d 125 45 [l0, l1, l2, l3, l4] (aI z :: st) s = Ze d 125 46 [l0, l1, l2, aI z, l4] st s := Ze_n (i := (.istore_n 3)) (len := 1) (by decide +kernel) rfl
theorem x125_46 : Ze d 125 46 [l0, l1, l2, aI z, l4] st s = Ze d 125 47 [l0, l1, l2, aI z, l4] (aI z :: st) s := Ze_n (i := (.iload_n 3)) (len := 1) (by decide +kernel) rfl
theorem x125_47 : Ze d 125 47 [l0, l1, l2, l3, l4] st s = Ze d 125 48 [l0, l1, l2, l3, l4] (aI (-1) :: st) s := Ze_n (i := (.iconst (-1))) (len := 1) (by decide +kernel) rfl
theorem x125_48 : Ze d 125 48 [l0, l1, l2, l3, l4] (aI b :: aI a :: st) s = if a = b then Ze d 125 68 [l0, l1, l2, l3, l4] st s else Ze d 125 51 [l0, l1, l2, l3, l4] st s := Ze_b (i := (.if_icmp .eq 20)) (len := 3) (by decide +kernel) rfl
theorem x125_51 : Ze d 125 51 [aR r, l1, l2, l3, l4] st s = Ze d 125 52 [aR r, l1, l2, l3, l4] (aR r :: st) s := Ze_n (i := (.aload_n 0)) (len := 1) (by decide +kernel) rfl
theorem x125_52 : Ze d 125 52 [l0, l1, l2, l3, l4] st s = Ze d 125 54 [l0, l1, l2, l3, l4] (aI 58 :: st) s := Ze_n (i := (.bipush 58)) (len := 2) (by decide +kernel) rfl
theorem x125_54 (h : obC r = 7) (h6 : st.length ≤ 4) : Ze d 125 54 [l0, l1, l2, l3, l4] (aI a1 :: aR r :: st) s = zcI (Zc d 141 [aR r, aI a1] s) d 125 57 [l0, l1, l2, l3, l4] st := Ze_cvI (idx := 87) (len := 3) (as := [aI a1]) (by decide +kernel) rfl (by decide +kernel) rfl h h6
theorem x125_57 : Ze d 125 57 [l0, l1, l2, l3, l4] (aI a :: st) s = if a = 0 then Ze d 125 68 [l0, l1, l2, l3, l4] st s else Ze d 125 60 [l0, l1, l2, l3, l4] st s := Ze_b (i := (.ifCond .eq 11)) (len := 3) (by decide +kernel) rfl
theorem x125_60 : Ze d 125 60 [aR r, l1, l2, l3, l4] st s = Ze d 125 61 [aR r, l1, l2, l3, l4] (aR r :: st) s := Ze_n (i := (.aload_n 0)) (len := 1) (by decide +kernel) rfl
theorem x125_61 : Ze d 125 61 [l0, l1, l2, l3, l4] st s = Ze d 125 62 [l0, l1, l2, l3, l4] (aI 1 :: st) s := Ze_n (i := (.iconst 1)) (len := 1) (by decide +kernel) rfl
theorem x125_62 (h : obC r = 7) (h6 : st.length ≤ 4) : Ze d 125 62 [l0, l1, l2, l3, l4] (aI a1 :: aR r :: st) s = zcI (Zc d 130 [aR r, aI a1] s) d 125 65 [l0, l1, l2, l3, l4] st := Ze_cvI (idx := 91) (len := 3) (as := [aI a1]) (by decide +kernel) rfl (by decide +kernel) rfl h h6
theorem x125_65 : Ze d 125 65 [l0, l1, l2, l3, l4] st s = Ze d 125 69 [l0, l1, l2, l3, l4] st s := Ze_n (i := (.goto 4)) (len := 3) (by decide +kernel) rfl
theorem x125_68 : Ze d 125 68 [l0, l1, l2, l3, l4] st s = Ze d 125 69 [l0, l1, l2, l3, l4] (aI (-1) :: st) s := Ze_n (i := (.iconst (-1))) (len := 1) (by decide +kernel) rfl
theorem x125_69 : Ze d 125 69 [l0, l1, l2, l3, l4] (aI z :: st) s = Ze d 125 71 [l0, l1, l2, l3, aI z] st s := Ze_n (i := (.istore 4)) (len := 2) (by decide +kernel) rfl
theorem x125_71 : Ze d 125 71 [l0, l1, l2, l3, aI z] st s = Ze d 125 73 [l0, l1, l2, l3, aI z] (aI z :: st) s := Ze_n (i := (.iload 4)) (len := 2) (by decide +kernel) rfl
theorem x125_73 : Ze d 125 73 [l0, l1, l2, l3, l4] st s = Ze d 125 74 [l0, l1, l2, l3, l4] (aI (-1) :: st) s := Ze_n (i := (.iconst (-1))) (len := 1) (by decide +kernel) rfl
theorem x125_74 : Ze d 125 74 [l0, l1, l2, l3, l4] (aI b :: aI a :: st) s = if a = b then Ze d 125 98 [l0, l1, l2, l3, l4] st s else Ze d 125 77 [l0, l1, l2, l3, l4] st s := Ze_b (i := (.if_icmp .eq 24)) (len := 3) (by decide +kernel) rfl
theorem x125_77 : Ze d 125 77 [aR r, l1, l2, l3, l4] st s = Ze d 125 78 [aR r, l1, l2, l3, l4] (aR r :: st) s := Ze_n (i := (.aload_n 0)) (len := 1) (by decide +kernel) rfl
theorem x125_78 : Ze d 125 78 [l0, l1, l2, l3, l4] st s = Ze d 125 80 [l0, l1, l2, l3, l4] (aI 59 :: st) s := Ze_n (i := (.bipush 59)) (len := 2) (by decide +kernel) rfl
theorem x125_80 (h : obC r = 7) (h6 : st.length ≤ 4) : Ze d 125 80 [l0, l1, l2, l3, l4] (aI a1 :: aR r :: st) s = zcI (Zc d 141 [aR r, aI a1] s) d 125 83 [l0, l1, l2, l3, l4] st := Ze_cvI (idx := 87) (len := 3) (as := [aI a1]) (by decide +kernel) rfl (by decide +kernel) rfl h h6
theorem x125_83 : Ze d 125 83 [l0, l1, l2, l3, l4] (aI a :: st) s = if a = 0 then Ze d 125 98 [l0, l1, l2, l3, l4] st s else Ze d 125 86 [l0, l1, l2, l3, l4] st s := Ze_b (i := (.ifCond .eq 15)) (len := 3) (by decide +kernel) rfl
theorem x125_86 : Ze d 125 86 [aR r, l1, l2, l3, l4] st s = Ze d 125 87 [aR r, l1, l2, l3, l4] (aR r :: st) s := Ze_n (i := (.aload_n 0)) (len := 1) (by decide +kernel) rfl
theorem x125_87 (h : obC r = 7) : Ze d 125 87 [l0, l1, l2, l3, l4] (aR r :: st) s = Ze d 125 90 [l0, l1, l2, l3, l4] (aR (fcn r 2) :: st) s := Ze_gf (len := 3) (idx := 23) (by decide +kernel) rfl h rfl
theorem x125_90 : Ze d 125 90 [l0, aI z, l2, l3, l4] st s = Ze d 125 91 [l0, aI z, l2, l3, l4] (aI z :: st) s := Ze_n (i := (.iload_n 1)) (len := 1) (by decide +kernel) rfl
theorem x125_91 : Ze d 125 91 [l0, l1, aI z, l3, l4] st s = Ze d 125 92 [l0, l1, aI z, l3, l4] (aI z :: st) s := Ze_n (i := (.iload_n 2)) (len := 1) (by decide +kernel) rfl
theorem x125_92 : Ze d 125 92 [l0, l1, l2, aI z, l4] st s = Ze d 125 93 [l0, l1, l2, aI z, l4] (aI z :: st) s := Ze_n (i := (.iload_n 3)) (len := 1) (by decide +kernel) rfl
theorem x125_93 : Ze d 125 93 [l0, l1, l2, l3, aI z] st s = Ze d 125 95 [l0, l1, l2, l3, aI z] (aI z :: st) s := Ze_n (i := (.iload 4)) (len := 2) (by decide +kernel) rfl
theorem x125_95 (h : obC r = 10) (h6 : st.length ≤ 4) : Ze d 125 95 [l0, l1, l2, l3, l4] (aI a4 :: aI a3 :: aI a2 :: aI a1 :: aR r :: st) s = zcV (Zc d 154 [aR r, aI a1, aI a2, aI a3, aI a4] s) d 125 98 [l0, l1, l2, l3, l4] st := Ze_cvV (idx := 95) (len := 3) (as := [aI a1, aI a2, aI a3, aI a4]) (by decide +kernel) rfl (by decide +kernel) rfl h h6
theorem x125_98 : Ze d 125 98 [l0, l1, l2, l3, l4] [] s = rV s := Ze_v (by decide +kernel) rfl
theorem en125 : Zc (d + 1) 125 [aR r] s = Ze d 125 0 [aR r, aU, aU, aU, aU] [] s := rfl
theorem x126_0 : Ze d 126 0 [aR r, l1, l2, l3] st s = Ze d 126 1 [aR r, l1, l2, l3] (aR r :: st) s := Ze_n (i := (.aload_n 0)) (len := 1) (by decide +kernel) rfl
theorem x126_1 (h : obC r = 7) : Ze d 126 1 [l0, l1, l2, l3] (aR r :: st) s = Ze d 126 4 [l0, l1, l2, l3] (aI (s r 6) :: st) s := Ze_gf (len := 3) (idx := 35) (by decide +kernel) rfl h rfl
theorem x126_4 : Ze d 126 4 [l0, l1, l2, l3] (aI a :: st) s = if 0 < a then Ze d 126 7 [l0, l1, l2, l3] st s else Ze d 126 13 [l0, l1, l2, l3] st s := Ze_b (i := (.ifCond .le 9)) (len := 3) (by decide +kernel) rfl
theorem x126_7 : Ze d 126 7 [aR r, l1, l2, l3] st s = Ze d 126 8 [aR r, l1, l2, l3] (aR r :: st) s := Ze_n (i := (.aload_n 0)) (len := 1) (by decide +kernel) rfl
theorem x126_8 (h : obC r = 7) (h6 : st.length ≤ 4) : Ze d 126 8 [l0, l1, l2, l3] (aR r :: st) s = zcI (Zc d 142 [aR r] s) d 126 11 [l0, l1, l2, l3] st := Ze_cvI (idx := 75) (len := 3) (as := []) (by decide +kernel) rfl (by decide +kernel) rfl h h6
theorem x126_11 : Ze d 126 11 [l0, l1, l2, l3] (aI a :: st) s = Ze d 126 12 [l0, l1, l2, l3] st s := Ze_n (i := .pop) (len := 1) (by decide +kernel) rfl
theorem x126_12 : Ze d 126 12 [l0, l1, l2, l3] [] s = rV s := Ze_v (by decide +kernel) rfl
theorem x126_13 : Ze d 126 13 [aR r, l1, l2, l3] st s = Ze d 126 14 [aR r, l1, l2, l3] (aR r :: st) s := Ze_n (i := (.aload_n 0)) (len := 1) (by decide +kernel) rfl
theorem x126_14 (h : obC r = 7) : Ze d 126 14 [l0, l1, l2, l3] (aR r :: st) s = Ze d 126 17 [l0, l1, l2, l3] (aR (fcn r 0) :: st) s := Ze_gf (len := 3) (idx := 15) (by decide +kernel) rfl h rfl
theorem x126_17 (h : obC r = 11) : Ze d 126 17 [l0, l1, l2, l3] (aR r :: st) s = Ze d 126 20 [l0, l1, l2, l3] (aR (fcn r 1) :: st) s := Ze_gf (len := 3) (idx := 78) (by decide +kernel) rfl h rfl
theorem x126_20 : Ze d 126 20 [aR r, l1, l2, l3] st s = Ze d 126 21 [aR r, l1, l2, l3] (aR r :: st) s := Ze_n (i := (.aload_n 0)) (len := 1) (by decide +kernel) rfl
theorem x126_21 (h : obC r = 7) : Ze d 126 21 [l0, l1, l2, l3] (aR r :: st) s = Ze d 126 24 [l0, l1, l2, l3] (aI (s r 4) :: st) s := Ze_gf (len := 3) (idx := 72) (by decide +kernel) rfl h rfl
theorem x126_24 (h0 : 0 ≤ i) (h1 : i < aN1 r) : Ze d 126 24 [l0, l1, l2, l3] (aI i :: aR r :: st) s = Ze d 126 25 [l0, l1, l2, l3] (aI (s r i.toNat) :: st) s := Ze_n (i := .iaload) (len := 1) (by decide +kernel) (if_pos ⟨h0, h1⟩)
theorem x126_25 : Ze d 126 25 [l0, l1, l2, l3] (aI z :: st) s = Ze d 126 26 [l0, aI z, l2, l3] st s := Ze_n (i := (.istore_n 1)) (len := 1) (by decide +kernel) rfl
theorem x126_26 : Ze d 126 26 [aR r, l1, l2, l3] st s = Ze d 126 27 [aR r, l1, l2, l3] (aR r :: st) s := Ze_n (i := (.aload_n 0)) (len := 1) (by decide +kernel) rfl
theorem x126_27 : Ze d 126 27 [l0, l1, l2, l3] (aR r :: st) s = Ze d 126 28 [l0, l1, l2, l3] (aR r :: aR r :: st) s := Ze_n (i := .dup) (len := 1) (by decide +kernel) rfl
theorem x126_27i : Ze d 126 27 [l0, l1, l2, l3] (aI a :: st) s = Ze d 126 28 [l0, l1, l2, l3] (aI a :: aI a :: st) s := Ze_n (i := .dup) (len := 1) (by decide +kernel) rfl
theorem x126_28 (h : obC r = 7) : Ze d 126 28 [l0, l1, l2, l3] (aR r :: st) s = Ze d 126 31 [l0, l1, l2, l3] (aI (s r 4) :: st) s := Ze_gf (len := 3) (idx := 72) (by decide +kernel) rfl h rfl
theorem x126_31 : Ze d 126 31 [l0, l1, l2, l3] st s = Ze d 126 32 [l0, l1, l2, l3] (aI 1 :: st) s := Ze_n (i := (.iconst 1)) (len := 1) (by decide +kernel) rfl
theorem x126_32 : Ze d 126 32 [l0, l1, l2, l3] (aI b :: aI a :: st) s = Ze d 126 33 [l0, l1, l2, l3] (aI (wrap (a + b)) :: st) s := Ze_n (i := .iadd) (len := 1) (by decide +kernel) rfl
theorem x126_33 (h : obC r = 7) : Ze d 126 33 [l0, l1, l2, l3] (aI z :: aR r :: st) s = Ze d 126 36 [l0, l1, l2, l3] st (mu s r 4 z) := Ze_n (i := .putfield 72) (len := 3) (by decide +kernel) (if_pos h)
theorem x126_36 : Ze d 126 36 [aR r, l1, l2, l3] st s = Ze d 126 37 [aR r, l1, l2, l3] (aR r :: st) s := Ze_n (i := (.aload_n 0)) (len := 1) (by decide +kernel) rfl
theorem x126_37 (h : obC r = 7) (h6 : st.length ≤ 4) : Ze d 126 37 [l0, l1, l2, l3] (aR r :: st) s = zcI (Zc d 139 [aR r] s) d 126 40 [l0, l1, l2, l3] st := Ze_cvI (idx := 84) (len := 3) (as := []) (by decide +kernel) rfl (by decide +kernel) rfl h h6
theorem x126_40 : Ze d 126 40 [l0, l1, l2, l3] (aI z :: st) s = Ze d 126 41 [l0, l1, aI z, l3] st s := Ze_n (i := (.istore_n 2)) (len := 1) (by decide +kernel) rfl
theorem x126_41 : Ze d 126 41 [l0, l1, aI z, l3] st s = Ze d 126 42 [l0, l1, aI z, l3] (aI z :: st) s := Ze_n (i := (.iload_n 2)) (len := 1) (by decide +kernel) rfl
theorem x126_42 : Ze d 126 42 [l0, l1, l2, l3] st s = Ze d 126 43 [l0, l1, l2, l3] (aI (-1) :: st) s := Ze_n (i := (.iconst (-1))) (len := 1) (by decide +kernel) rfl
theorem x126_43 : Ze d 126 43 [l0, l1, l2, l3] (aI b :: aI a :: st) s = if a = b then Ze d 126 63 [l0, l1, l2, l3] st s else Ze d 126 46 [l0, l1, l2, l3] st s := Ze_b (i := (.if_icmp .eq 20)) (len := 3) (by decide +kernel) rfl
theorem x126_46 : Ze d 126 46 [aR r, l1, l2, l3] st s = Ze d 126 47 [aR r, l1, l2, l3] (aR r :: st) s := Ze_n (i := (.aload_n 0)) (len := 1) (by decide +kernel) rfl
theorem x126_47 : Ze d 126 47 [l0, l1, l2, l3] st s = Ze d 126 49 [l0, l1, l2, l3] (aI 61 :: st) s := Ze_n (i := (.bipush 61)) (len := 2) (by decide +kernel) rfl
theorem x126_49 (h : obC r = 7) (h6 : st.length ≤ 4) : Ze d 126 49 [l0, l1, l2, l3] (aI a1 :: aR r :: st) s = zcI (Zc d 141 [aR r, aI a1] s) d 126 52 [l0, l1, l2, l3] st := Ze_cvI (idx := 87) (len := 3) (as := [aI a1]) (by decide +kernel) rfl (by decide +kernel) rfl h h6
theorem x126_52 : Ze d 126 52 [l0, l1, l2, l3] (aI a :: st) s = if a = 0 then Ze d 126 63 [l0, l1, l2, l3] st s else Ze d 126 55 [l0, l1, l2, l3] st s := Ze_b (i := (.ifCond .eq 11)) (len := 3) (by decide +kernel) rfl
theorem x126_55 : Ze d 126 55 [aR r, l1, l2, l3] st s = Ze d 126 56 [aR r, l1, l2, l3] (aR r :: st) s := Ze_n (i := (.aload_n 0)) (len := 1) (by decide +kernel) rfl
theorem x126_56 : Ze d 126 56 [l0, l1, l2, l3] st s = Ze d 126 57 [l0, l1, l2, l3] (aI 1 :: st) s := Ze_n (i := (.iconst 1)) (len := 1) (by decide +kernel) rfl
theorem x126_57 (h : obC r = 7) (h6 : st.length ≤ 4) : Ze d 126 57 [l0, l1, l2, l3] (aI a1 :: aR r :: st) s = zcI (Zc d 135 [aR r, aI a1] s) d 126 60 [l0, l1, l2, l3] st := Ze_cvI (idx := 99) (len := 3) (as := [aI a1]) (by decide +kernel) rfl (by decide +kernel) rfl h h6
theorem x126_60 : Ze d 126 60 [l0, l1, l2, l3] st s = Ze d 126 64 [l0, l1, l2, l3] st s := Ze_n (i := (.goto 4)) (len := 3) (by decide +kernel) rfl
theorem x126_63 : Ze d 126 63 [l0, l1, l2, l3] st s = Ze d 126 64 [l0, l1, l2, l3] (aI (-1) :: st) s := Ze_n (i := (.iconst (-1))) (len := 1) (by decide +kernel) rfl
theorem x126_64 : Ze d 126 64 [l0, l1, l2, l3] (aI z :: st) s = Ze d 126 65 [l0, l1, l2, aI z] st s := Ze_n (i := (.istore_n 3)) (len := 1) (by decide +kernel) rfl
theorem x126_65 : Ze d 126 65 [l0, l1, l2, aI z] st s = Ze d 126 66 [l0, l1, l2, aI z] (aI z :: st) s := Ze_n (i := (.iload_n 3)) (len := 1) (by decide +kernel) rfl
theorem x126_66 : Ze d 126 66 [l0, l1, l2, l3] st s = Ze d 126 67 [l0, l1, l2, l3] (aI (-1) :: st) s := Ze_n (i := (.iconst (-1))) (len := 1) (by decide +kernel) rfl
theorem x126_67 : Ze d 126 67 [l0, l1, l2, l3] (aI b :: aI a :: st) s = if a = b then Ze d 126 91 [l0, l1, l2, l3] st s else Ze d 126 70 [l0, l1, l2, l3] st s := Ze_b (i := (.if_icmp .eq 24)) (len := 3) (by decide +kernel) rfl
theorem x126_70 : Ze d 126 70 [aR r, l1, l2, l3] st s = Ze d 126 71 [aR r, l1, l2, l3] (aR r :: st) s := Ze_n (i := (.aload_n 0)) (len := 1) (by decide +kernel) rfl
theorem x126_71 : Ze d 126 71 [l0, l1, l2, l3] st s = Ze d 126 73 [l0, l1, l2, l3] (aI 59 :: st) s := Ze_n (i := (.bipush 59)) (len := 2) (by decide +kernel) rfl
theorem x126_73 (h : obC r = 7) (h6 : st.length ≤ 4) : Ze d 126 73 [l0, l1, l2, l3] (aI a1 :: aR r :: st) s = zcI (Zc d 141 [aR r, aI a1] s) d 126 76 [l0, l1, l2, l3] st := Ze_cvI (idx := 87) (len := 3) (as := [aI a1]) (by decide +kernel) rfl (by decide +kernel) rfl h h6
theorem x126_76 : Ze d 126 76 [l0, l1, l2, l3] (aI a :: st) s = if a = 0 then Ze d 126 91 [l0, l1, l2, l3] st s else Ze d 126 79 [l0, l1, l2, l3] st s := Ze_b (i := (.ifCond .eq 15)) (len := 3) (by decide +kernel) rfl
theorem x126_79 : Ze d 126 79 [aR r, l1, l2, l3] st s = Ze d 126 80 [aR r, l1, l2, l3] (aR r :: st) s := Ze_n (i := (.aload_n 0)) (len := 1) (by decide +kernel) rfl
theorem x126_80 (h : obC r = 7) : Ze d 126 80 [l0, l1, l2, l3] (aR r :: st) s = Ze d 126 83 [l0, l1, l2, l3] (aR (fcn r 2) :: st) s := Ze_gf (len := 3) (idx := 23) (by decide +kernel) rfl h rfl
theorem x126_83 : Ze d 126 83 [l0, l1, l2, l3] st s = Ze d 126 85 [l0, l1, l2, l3] (aI 78 :: st) s := Ze_n (i := (.bipush 78)) (len := 2) (by decide +kernel) rfl
theorem x126_85 : Ze d 126 85 [l0, aI z, l2, l3] st s = Ze d 126 86 [l0, aI z, l2, l3] (aI z :: st) s := Ze_n (i := (.iload_n 1)) (len := 1) (by decide +kernel) rfl
theorem x126_86 : Ze d 126 86 [l0, l1, aI z, l3] st s = Ze d 126 87 [l0, l1, aI z, l3] (aI z :: st) s := Ze_n (i := (.iload_n 2)) (len := 1) (by decide +kernel) rfl
theorem x126_87 : Ze d 126 87 [l0, l1, l2, aI z] st s = Ze d 126 88 [l0, l1, l2, aI z] (aI z :: st) s := Ze_n (i := (.iload_n 3)) (len := 1) (by decide +kernel) rfl
theorem x126_88 (h : obC r = 10) (h6 : st.length ≤ 4) : Ze d 126 88 [l0, l1, l2, l3] (aI a4 :: aI a3 :: aI a2 :: aI a1 :: aR r :: st) s = zcV (Zc d 154 [aR r, aI a1, aI a2, aI a3, aI a4] s) d 126 91 [l0, l1, l2, l3] st := Ze_cvV (idx := 95) (len := 3) (as := [aI a1, aI a2, aI a3, aI a4]) (by decide +kernel) rfl (by decide +kernel) rfl h h6
theorem x126_91 : Ze d 126 91 [l0, l1, l2, l3] [] s = rV s := Ze_v (by decide +kernel) rfl
theorem en126 : Zc (d + 1) 126 [aR r] s = Ze d 126 0 [aR r, aU, aU, aU] [] s := rfl
theorem x127_0 : Ze d 127 0 [aR r, l1, l2, l3] st s = Ze d 127 1 [aR r, l1, l2, l3] (aR r :: st) s := Ze_n (i := (.aload_n 0)) (len := 1) (by decide +kernel) rfl
theorem x127_1 (h : obC r = 7) : Ze d 127 1 [l0, l1, l2, l3] (aR r :: st) s = Ze d 127 4 [l0, l1, l2, l3] (aR (fcn r 0) :: st) s := Ze_gf (len := 3) (idx := 15) (by decide +kernel) rfl h rfl
theorem x127_4 (h : obC r = 11) : Ze d 127 4 [l0, l1, l2, l3] (aR r :: st) s = Ze d 127 7 [l0, l1, l2, l3] (aR (fcn r 1) :: st) s := Ze_gf (len := 3) (idx := 78) (by decide +kernel) rfl h rfl
theorem x127_7 : Ze d 127 7 [aR r, l1, l2, l3] st s = Ze d 127 8 [aR r, l1, l2, l3] (aR r :: st) s := Ze_n (i := (.aload_n 0)) (len := 1) (by decide +kernel) rfl
theorem x127_8 (h : obC r = 7) : Ze d 127 8 [l0, l1, l2, l3] (aR r :: st) s = Ze d 127 11 [l0, l1, l2, l3] (aI (s r 4) :: st) s := Ze_gf (len := 3) (idx := 72) (by decide +kernel) rfl h rfl
theorem x127_11 (h0 : 0 ≤ i) (h1 : i < aN1 r) : Ze d 127 11 [l0, l1, l2, l3] (aI i :: aR r :: st) s = Ze d 127 12 [l0, l1, l2, l3] (aI (s r i.toNat) :: st) s := Ze_n (i := .iaload) (len := 1) (by decide +kernel) (if_pos ⟨h0, h1⟩)
theorem x127_12 : Ze d 127 12 [l0, l1, l2, l3] (aI z :: st) s = Ze d 127 13 [l0, aI z, l2, l3] st s := Ze_n (i := (.istore_n 1)) (len := 1) (by decide +kernel) rfl
theorem x127_13 : Ze d 127 13 [aR r, l1, l2, l3] st s = Ze d 127 14 [aR r, l1, l2, l3] (aR r :: st) s := Ze_n (i := (.aload_n 0)) (len := 1) (by decide +kernel) rfl
theorem x127_14 (h : obC r = 7) (h6 : st.length ≤ 4) : Ze d 127 14 [l0, l1, l2, l3] (aR r :: st) s = zcI (Zc d 137 [aR r] s) d 127 17 [l0, l1, l2, l3] st := Ze_cvI (idx := 102) (len := 3) (as := []) (by decide +kernel) rfl (by decide +kernel) rfl h h6
theorem x127_17 : Ze d 127 17 [l0, l1, l2, l3] (aI z :: st) s = Ze d 127 18 [l0, l1, aI z, l3] st s := Ze_n (i := (.istore_n 2)) (len := 1) (by decide +kernel) rfl
theorem x127_18 : Ze d 127 18 [l0, l1, aI z, l3] st s = Ze d 127 19 [l0, l1, aI z, l3] (aI z :: st) s := Ze_n (i := (.iload_n 2)) (len := 1) (by decide +kernel) rfl
theorem x127_19 : Ze d 127 19 [l0, l1, l2, l3] st s = Ze d 127 20 [l0, l1, l2, l3] (aI (-1) :: st) s := Ze_n (i := (.iconst (-1))) (len := 1) (by decide +kernel) rfl
theorem x127_20 : Ze d 127 20 [l0, l1, l2, l3] (aI b :: aI a :: st) s = if a = b then Ze d 127 39 [l0, l1, l2, l3] st s else Ze d 127 23 [l0, l1, l2, l3] st s := Ze_b (i := (.if_icmp .eq 19)) (len := 3) (by decide +kernel) rfl
theorem x127_23 : Ze d 127 23 [aR r, l1, l2, l3] st s = Ze d 127 24 [aR r, l1, l2, l3] (aR r :: st) s := Ze_n (i := (.aload_n 0)) (len := 1) (by decide +kernel) rfl
theorem x127_24 : Ze d 127 24 [l0, l1, l2, l3] st s = Ze d 127 25 [l0, l1, l2, l3] (aI 3 :: st) s := Ze_n (i := (.iconst 3)) (len := 1) (by decide +kernel) rfl
theorem x127_25 (h : obC r = 7) (h6 : st.length ≤ 4) : Ze d 127 25 [l0, l1, l2, l3] (aI a1 :: aR r :: st) s = zcI (Zc d 141 [aR r, aI a1] s) d 127 28 [l0, l1, l2, l3] st := Ze_cvI (idx := 87) (len := 3) (as := [aI a1]) (by decide +kernel) rfl (by decide +kernel) rfl h h6
theorem x127_28 : Ze d 127 28 [l0, l1, l2, l3] (aI a :: st) s = if a = 0 then Ze d 127 39 [l0, l1, l2, l3] st s else Ze d 127 31 [l0, l1, l2, l3] st s := Ze_b (i := (.ifCond .eq 11)) (len := 3) (by decide +kernel) rfl
theorem x127_31 : Ze d 127 31 [aR r, l1, l2, l3] st s = Ze d 127 32 [aR r, l1, l2, l3] (aR r :: st) s := Ze_n (i := (.aload_n 0)) (len := 1) (by decide +kernel) rfl
theorem x127_32 : Ze d 127 32 [l0, l1, l2, l3] st s = Ze d 127 33 [l0, l1, l2, l3] (aI 1 :: st) s := Ze_n (i := (.iconst 1)) (len := 1) (by decide +kernel) rfl
theorem x127_33 (h : obC r = 7) (h6 : st.length ≤ 4) : Ze d 127 33 [l0, l1, l2, l3] (aI a1 :: aR r :: st) s = zcI (Zc d 135 [aR r, aI a1] s) d 127 36 [l0, l1, l2, l3] st := Ze_cvI (idx := 99) (len := 3) (as := [aI a1]) (by decide +kernel) rfl (by decide +kernel) rfl h h6
theorem x127_36 : Ze d 127 36 [l0, l1, l2, l3] st s = Ze d 127 40 [l0, l1, l2, l3] st s := Ze_n (i := (.goto 4)) (len := 3) (by decide +kernel) rfl
theorem x127_39 : Ze d 127 39 [l0, l1, l2, l3] st s = Ze d 127 40 [l0, l1, l2, l3] (aI (-1) :: st) s := Ze_n (i := (.iconst (-1))) (len := 1) (by decide +kernel) rfl
theorem x127_40 : Ze d 127 40 [l0, l1, l2, l3] (aI z :: st) s = Ze d 127 41 [l0, l1, l2, aI z] st s := Ze_n (i := (.istore_n 3)) (len := 1) (by decide +kernel) rfl
theorem x127_41 : Ze d 127 41 [l0, l1, l2, aI z] st s = Ze d 127 42 [l0, l1, l2, aI z] (aI z :: st) s := Ze_n (i := (.iload_n 3)) (len := 1) (by decide +kernel) rfl
theorem x127_42 : Ze d 127 42 [l0, l1, l2, l3] st s = Ze d 127 43 [l0, l1, l2, l3] (aI (-1) :: st) s := Ze_n (i := (.iconst (-1))) (len := 1) (by decide +kernel) rfl
theorem x127_43 : Ze d 127 43 [l0, l1, l2, l3] (aI b :: aI a :: st) s = if a = b then Ze d 127 66 [l0, l1, l2, l3] st s else Ze d 127 46 [l0, l1, l2, l3] st s := Ze_b (i := (.if_icmp .eq 23)) (len := 3) (by decide +kernel) rfl
theorem x127_46 : Ze d 127 46 [aR r, l1, l2, l3] st s = Ze d 127 47 [aR r, l1, l2, l3] (aR r :: st) s := Ze_n (i := (.aload_n 0)) (len := 1) (by decide +kernel) rfl
theorem x127_47 : Ze d 127 47 [l0, l1, l2, l3] st s = Ze d 127 49 [l0, l1, l2, l3] (aI 59 :: st) s := Ze_n (i := (.bipush 59)) (len := 2) (by decide +kernel) rfl
theorem x127_49 (h : obC r = 7) (h6 : st.length ≤ 4) : Ze d 127 49 [l0, l1, l2, l3] (aI a1 :: aR r :: st) s = zcI (Zc d 141 [aR r, aI a1] s) d 127 52 [l0, l1, l2, l3] st := Ze_cvI (idx := 87) (len := 3) (as := [aI a1]) (by decide +kernel) rfl (by decide +kernel) rfl h h6
theorem x127_52 : Ze d 127 52 [l0, l1, l2, l3] (aI a :: st) s = if a = 0 then Ze d 127 66 [l0, l1, l2, l3] st s else Ze d 127 55 [l0, l1, l2, l3] st s := Ze_b (i := (.ifCond .eq 14)) (len := 3) (by decide +kernel) rfl
theorem x127_55 : Ze d 127 55 [aR r, l1, l2, l3] st s = Ze d 127 56 [aR r, l1, l2, l3] (aR r :: st) s := Ze_n (i := (.aload_n 0)) (len := 1) (by decide +kernel) rfl
theorem x127_56 (h : obC r = 7) : Ze d 127 56 [l0, l1, l2, l3] (aR r :: st) s = Ze d 127 59 [l0, l1, l2, l3] (aR (fcn r 2) :: st) s := Ze_gf (len := 3) (idx := 23) (by decide +kernel) rfl h rfl
theorem x127_59 : Ze d 127 59 [l0, l1, l2, l3] st s = Ze d 127 60 [l0, l1, l2, l3] (aI 3 :: st) s := Ze_n (i := (.iconst 3)) (len := 1) (by decide +kernel) rfl
theorem x127_60 : Ze d 127 60 [l0, aI z, l2, l3] st s = Ze d 127 61 [l0, aI z, l2, l3] (aI z :: st) s := Ze_n (i := (.iload_n 1)) (len := 1) (by decide +kernel) rfl
theorem x127_61 : Ze d 127 61 [l0, l1, aI z, l3] st s = Ze d 127 62 [l0, l1, aI z, l3] (aI z :: st) s := Ze_n (i := (.iload_n 2)) (len := 1) (by decide +kernel) rfl
theorem x127_62 : Ze d 127 62 [l0, l1, l2, aI z] st s = Ze d 127 63 [l0, l1, l2, aI z] (aI z :: st) s := Ze_n (i := (.iload_n 3)) (len := 1) (by decide +kernel) rfl
theorem x127_63 (h : obC r = 10) (h6 : st.length ≤ 4) : Ze d 127 63 [l0, l1, l2, l3] (aI a4 :: aI a3 :: aI a2 :: aI a1 :: aR r :: st) s = zcV (Zc d 154 [aR r, aI a1, aI a2, aI a3, aI a4] s) d 127 66 [l0, l1, l2, l3] st := Ze_cvV (idx := 95) (len := 3) (as := [aI a1, aI a2, aI a3, aI a4]) (by decide +kernel) rfl (by decide +kernel) rfl h h6
theorem x127_66 : Ze d 127 66 [l0, l1, l2, l3] [] s = rV s := Ze_v (by decide +kernel) rfl
theorem en127 : Zc (d + 1) 127 [aR r] s = Ze d 127 0 [aR r, aU, aU, aU] [] s := rfl
theorem x128_0 : Ze d 128 0 [aR r, l1, l2] st s = Ze d 128 1 [aR r, l1, l2] (aR r :: st) s := Ze_n (i := (.aload_n 0)) (len := 1) (by decide +kernel) rfl
theorem x128_1 (h : obC r = 7) : Ze d 128 1 [l0, l1, l2] (aR r :: st) s = Ze d 128 4 [l0, l1, l2] (aI (s r 6) :: st) s := Ze_gf (len := 3) (idx := 35) (by decide +kernel) rfl h rfl
theorem x128_4 : Ze d 128 4 [l0, l1, l2] st s = Ze d 128 5 [l0, l1, l2] (aI 3 :: st) s := Ze_n (i := (.iconst 3)) (len := 1) (by decide +kernel) rfl
theorem x128_5 : Ze d 128 5 [l0, l1, l2] (aI b :: aI a :: st) s = if a = b then Ze d 128 8 [l0, l1, l2] st s else Ze d 128 14 [l0, l1, l2] st s := Ze_b (i := (.if_icmp .ne 9)) (len := 3) (by decide +kernel) rfl
theorem x128_8 : Ze d 128 8 [aR r, l1, l2] st s = Ze d 128 9 [aR r, l1, l2] (aR r :: st) s := Ze_n (i := (.aload_n 0)) (len := 1) (by decide +kernel) rfl
theorem x128_9 (h : obC r = 7) (h6 : st.length ≤ 4) : Ze d 128 9 [l0, l1, l2] (aR r :: st) s = zcI (Zc d 142 [aR r] s) d 128 12 [l0, l1, l2] st := Ze_cvI (idx := 75) (len := 3) (as := []) (by decide +kernel) rfl (by decide +kernel) rfl h h6
theorem x128_12 : Ze d 128 12 [l0, l1, l2] (aI a :: st) s = Ze d 128 13 [l0, l1, l2] st s := Ze_n (i := .pop) (len := 1) (by decide +kernel) rfl
theorem x128_13 : Ze d 128 13 [l0, l1, l2] [] s = rV s := Ze_v (by decide +kernel) rfl
theorem x128_14 : Ze d 128 14 [aR r, l1, l2] st s = Ze d 128 15 [aR r, l1, l2] (aR r :: st) s := Ze_n (i := (.aload_n 0)) (len := 1) (by decide +kernel) rfl
theorem x128_15 (h : obC r = 7) : Ze d 128 15 [l0, l1, l2] (aR r :: st) s = Ze d 128 18 [l0, l1, l2] (aR (fcn r 0) :: st) s := Ze_gf (len := 3) (idx := 15) (by decide +kernel) rfl h rfl
theorem x128_18 (h : obC r = 11) : Ze d 128 18 [l0, l1, l2] (aR r :: st) s = Ze d 128 21 [l0, l1, l2] (aR (fcn r 1) :: st) s := Ze_gf (len := 3) (idx := 78) (by decide +kernel) rfl h rfl
theorem x128_21 : Ze d 128 21 [aR r, l1, l2] st s = Ze d 128 22 [aR r, l1, l2] (aR r :: st) s := Ze_n (i := (.aload_n 0)) (len := 1) (by decide +kernel) rfl
theorem x128_22 (h : obC r = 7) : Ze d 128 22 [l0, l1, l2] (aR r :: st) s = Ze d 128 25 [l0, l1, l2] (aI (s r 4) :: st) s := Ze_gf (len := 3) (idx := 72) (by decide +kernel) rfl h rfl
theorem x128_25 (h0 : 0 ≤ i) (h1 : i < aN1 r) : Ze d 128 25 [l0, l1, l2] (aI i :: aR r :: st) s = Ze d 128 26 [l0, l1, l2] (aI (s r i.toNat) :: st) s := Ze_n (i := .iaload) (len := 1) (by decide +kernel) (if_pos ⟨h0, h1⟩)
theorem x128_26 : Ze d 128 26 [l0, l1, l2] (aI z :: st) s = Ze d 128 27 [l0, aI z, l2] st s := Ze_n (i := (.istore_n 1)) (len := 1) (by decide +kernel) rfl
theorem x128_27 : Ze d 128 27 [aR r, l1, l2] st s = Ze d 128 28 [aR r, l1, l2] (aR r :: st) s := Ze_n (i := (.aload_n 0)) (len := 1) (by decide +kernel) rfl
theorem x128_28 : Ze d 128 28 [l0, l1, l2] (aR r :: st) s = Ze d 128 29 [l0, l1, l2] (aR r :: aR r :: st) s := Ze_n (i := .dup) (len := 1) (by decide +kernel) rfl
theorem x128_28i : Ze d 128 28 [l0, l1, l2] (aI a :: st) s = Ze d 128 29 [l0, l1, l2] (aI a :: aI a :: st) s := Ze_n (i := .dup) (len := 1) (by decide +kernel) rfl
theorem x128_29 (h : obC r = 7) : Ze d 128 29 [l0, l1, l2] (aR r :: st) s = Ze d 128 32 [l0, l1, l2] (aI (s r 4) :: st) s := Ze_gf (len := 3) (idx := 72) (by decide +kernel) rfl h rfl
theorem x128_32 : Ze d 128 32 [l0, l1, l2] st s = Ze d 128 33 [l0, l1, l2] (aI 1 :: st) s := Ze_n (i := (.iconst 1)) (len := 1) (by decide +kernel) rfl
theorem x128_33 : Ze d 128 33 [l0, l1, l2] (aI b :: aI a :: st) s = Ze d 128 34 [l0, l1, l2] (aI (wrap (a + b)) :: st) s := Ze_n (i := .iadd) (len := 1) (by decide +kernel) rfl
theorem x128_34 (h : obC r = 7) : Ze d 128 34 [l0, l1, l2] (aI z :: aR r :: st) s = Ze d 128 37 [l0, l1, l2] st (mu s r 4 z) := Ze_n (i := .putfield 72) (len := 3) (by decide +kernel) (if_pos h)
theorem x128_37 : Ze d 128 37 [aR r, l1, l2] st s = Ze d 128 38 [aR r, l1, l2] (aR r :: st) s := Ze_n (i := (.aload_n 0)) (len := 1) (by decide +kernel) rfl
theorem x128_38 : Ze d 128 38 [l0, l1, l2] st s = Ze d 128 39 [l0, l1, l2] (aI 1 :: st) s := Ze_n (i := (.iconst 1)) (len := 1) (by decide +kernel) rfl
theorem x128_39 (h : obC r = 7) (h6 : st.length ≤ 4) : Ze d 128 39 [l0, l1, l2] (aI a1 :: aR r :: st) s = zcI (Zc d 135 [aR r, aI a1] s) d 128 42 [l0, l1, l2] st := Ze_cvI (idx := 99) (len := 3) (as := [aI a1]) (by decide +kernel) rfl (by decide +kernel) rfl h h6
theorem x128_42 : Ze d 128 42 [l0, l1, l2] (aI z :: st) s = Ze d 128 43 [l0, l1, aI z] st s := Ze_n (i := (.istore_n 2)) (len := 1) (by decide +kernel) rfl
theorem x128_43 : Ze d 128 43 [l0, l1, aI z] st s = Ze d 128 44 [l0, l1, aI z] (aI z :: st) s := Ze_n (i := (.iload_n 2)) (len := 1) (by decide +kernel) rfl
theorem x128_44 : Ze d 128 44 [l0, l1, l2] st s = Ze d 128 45 [l0, l1, l2] (aI (-1) :: st) s := Ze_n (i := (.iconst (-1))) (len := 1) (by decide +kernel) rfl
theorem x128_45 : Ze d 128 45 [l0, l1, l2] (aI b :: aI a :: st) s = if a = b then Ze d 128 89 [l0, l1, l2] st s else Ze d 128 48 [l0, l1, l2] st s := Ze_b (i := (.if_icmp .eq 44)) (len := 3) (by decide +kernel) rfl
theorem x128_48 : Ze d 128 48 [aR r, l1, l2] st s = Ze d 128 49 [aR r, l1, l2] (aR r :: st) s := Ze_n (i := (.aload_n 0)) (len := 1) (by decide +kernel) rfl
theorem x128_49 : Ze d 128 49 [l0, l1, l2] st s = Ze d 128 51 [l0, l1, l2] (aI 123 :: st) s := Ze_n (i := (.bipush 123)) (len := 2) (by decide +kernel) rfl
theorem x128_51 (h : obC r = 7) (h6 : st.length ≤ 4) : Ze d 128 51 [l0, l1, l2] (aI a1 :: aR r :: st) s = zcI (Zc d 141 [aR r, aI a1] s) d 128 54 [l0, l1, l2] st := Ze_cvI (idx := 87) (len := 3) (as := [aI a1]) (by decide +kernel) rfl (by decide +kernel) rfl h h6
theorem x128_54 : Ze d 128 54 [l0, l1, l2] (aI a :: st) s = if a = 0 then Ze d 128 89 [l0, l1, l2] st s else Ze d 128 57 [l0, l1, l2] st s := Ze_b (i := (.ifCond .eq 35)) (len := 3) (by decide +kernel) rfl
theorem x128_57 : Ze d 128 57 [aR r, l1, l2] st s = Ze d 128 58 [aR r, l1, l2] (aR r :: st) s := Ze_n (i := (.aload_n 0)) (len := 1) (by decide +kernel) rfl
theorem x128_58 (h : obC r = 7) : Ze d 128 58 [l0, l1, l2] (aR r :: st) s = Ze d 128 61 [l0, l1, l2] (aR (fcn r 2) :: st) s := Ze_gf (len := 3) (idx := 23) (by decide +kernel) rfl h rfl
theorem x128_61 : Ze d 128 61 [l0, l1, l2] st s = Ze d 128 63 [l0, l1, l2] (aI 63 :: st) s := Ze_n (i := (.bipush 63)) (len := 2) (by decide +kernel) rfl
theorem x128_63 : Ze d 128 63 [l0, aI z, l2] st s = Ze d 128 64 [l0, aI z, l2] (aI z :: st) s := Ze_n (i := (.iload_n 1)) (len := 1) (by decide +kernel) rfl
theorem x128_64 : Ze d 128 64 [l0, l1, aI z] st s = Ze d 128 65 [l0, l1, aI z] (aI z :: st) s := Ze_n (i := (.iload_n 2)) (len := 1) (by decide +kernel) rfl
theorem x128_65 : Ze d 128 65 [l0, l1, l2] st s = Ze d 128 66 [l0, l1, l2] (aI 0 :: st) s := Ze_n (i := (.iconst 0)) (len := 1) (by decide +kernel) rfl
theorem x128_66 (h : obC r = 10) (h6 : st.length ≤ 4) : Ze d 128 66 [l0, l1, l2] (aI a4 :: aI a3 :: aI a2 :: aI a1 :: aR r :: st) s = zcV (Zc d 154 [aR r, aI a1, aI a2, aI a3, aI a4] s) d 128 69 [l0, l1, l2] st := Ze_cvV (idx := 95) (len := 3) (as := [aI a1, aI a2, aI a3, aI a4]) (by decide +kernel) rfl (by decide +kernel) rfl h h6
theorem x128_69 : Ze d 128 69 [aR r, l1, l2] st s = Ze d 128 70 [aR r, l1, l2] (aR r :: st) s := Ze_n (i := (.aload_n 0)) (len := 1) (by decide +kernel) rfl
theorem x128_70 (h : obC r = 7) : Ze d 128 70 [l0, l1, l2] (aR r :: st) s = Ze d 128 73 [l0, l1, l2] (aR (fcn r 7) :: st) s := Ze_gf (len := 3) (idx := 9) (by decide +kernel) rfl h rfl
theorem x128_73 : Ze d 128 73 [aR r, l1, l2] st s = Ze d 128 74 [aR r, l1, l2] (aR r :: st) s := Ze_n (i := (.aload_n 0)) (len := 1) (by decide +kernel) rfl
theorem x128_74 (h : obC r = 7) : Ze d 128 74 [l0, l1, l2] (aR r :: st) s = Ze d 128 77 [l0, l1, l2] (aI (s r 6) :: st) s := Ze_gf (len := 3) (idx := 35) (by decide +kernel) rfl h rfl
theorem x128_77 : Ze d 128 77 [l0, l1, l2] st s = Ze d 128 78 [l0, l1, l2] (aI 0 :: st) s := Ze_n (i := (.iconst 0)) (len := 1) (by decide +kernel) rfl
theorem x128_78 (h0 : 0 ≤ i) (h1 : i < aN2 r) (h2 : z = 0 ∨ z = 1) : Ze d 128 78 [l0, l1, l2] (aI z :: aI i :: aR r :: st) s = Ze d 128 79 [l0, l1, l2] st (mu s r i.toNat z) := Ze_n (i := .bastore) (len := 1) (by decide +kernel) (if_pos ⟨h0, h1, h2⟩)
theorem x128_79 : Ze d 128 79 [aR r, l1, l2] st s = Ze d 128 80 [aR r, l1, l2] (aR r :: st) s := Ze_n (i := (.aload_n 0)) (len := 1) (by decide +kernel) rfl
theorem x128_80 : Ze d 128 80 [l0, l1, l2] (aR r :: st) s = Ze d 128 81 [l0, l1, l2] (aR r :: aR r :: st) s := Ze_n (i := .dup) (len := 1) (by decide +kernel) rfl
theorem x128_80i : Ze d 128 80 [l0, l1, l2] (aI a :: st) s = Ze d 128 81 [l0, l1, l2] (aI a :: aI a :: st) s := Ze_n (i := .dup) (len := 1) (by decide +kernel) rfl
theorem x128_81 (h : obC r = 7) : Ze d 128 81 [l0, l1, l2] (aR r :: st) s = Ze d 128 84 [l0, l1, l2] (aI (s r 6) :: st) s := Ze_gf (len := 3) (idx := 35) (by decide +kernel) rfl h rfl
theorem x128_84 : Ze d 128 84 [l0, l1, l2] st s = Ze d 128 85 [l0, l1, l2] (aI 1 :: st) s := Ze_n (i := (.iconst 1)) (len := 1) (by decide +kernel) rfl
theorem x128_85 : Ze d 128 85 [l0, l1, l2] (aI b :: aI a :: st) s = Ze d 128 86 [l0, l1, l2] (aI (wrap (a + b)) :: st) s := Ze_n (i := .iadd) (len := 1) (by decide +kernel) rfl
theorem x128_86 (h : obC r = 7) : Ze d 128 86 [l0, l1, l2] (aI z :: aR r :: st) s = Ze d 128 89 [l0, l1, l2] st (mu s r 6 z) := Ze_n (i := .putfield 35) (len := 3) (by decide +kernel) (if_pos h)
theorem x128_89 : Ze d 128 89 [l0, l1, l2] [] s = rV s := Ze_v (by decide +kernel) rfl
theorem en128 : Zc (d + 1) 128 [aR r] s = Ze d 128 0 [aR r, aU, aU] [] s := rfl
theorem x129_0 : Ze d 129 0 [aR r, l1] st s = Ze d 129 1 [aR r, l1] (aR r :: st) s := Ze_n (i := (.aload_n 0)) (len := 1) (by decide +kernel) rfl
theorem x129_1 (h : obC r = 7) : Ze d 129 1 [l0, l1] (aR r :: st) s = Ze d 129 4 [l0, l1] (aI (s r 6) :: st) s := Ze_gf (len := 3) (idx := 35) (by decide +kernel) rfl h rfl
theorem x129_4 : Ze d 129 4 [l0, l1] (aI a :: st) s = if a = 0 then Ze d 129 7 [l0, l1] st s else Ze d 129 13 [l0, l1] st s := Ze_b (i := (.ifCond .ne 9)) (len := 3) (by decide +kernel) rfl
theorem x129_7 : Ze d 129 7 [aR r, l1] st s = Ze d 129 8 [aR r, l1] (aR r :: st) s := Ze_n (i := (.aload_n 0)) (len := 1) (by decide +kernel) rfl
theorem x129_8 (h : obC r = 7) (h6 : st.length ≤ 4) : Ze d 129 8 [l0, l1] (aR r :: st) s = zcI (Zc d 142 [aR r] s) d 129 11 [l0, l1] st := Ze_cvI (idx := 75) (len := 3) (as := []) (by decide +kernel) rfl (by decide +kernel) rfl h h6
theorem x129_11 : Ze d 129 11 [l0, l1] (aI a :: st) s = Ze d 129 12 [l0, l1] st s := Ze_n (i := .pop) (len := 1) (by decide +kernel) rfl
theorem x129_12 : Ze d 129 12 [l0, l1] [] s = rV s := Ze_v (by decide +kernel) rfl
theorem x129_13 : Ze d 129 13 [aR r, l1] st s = Ze d 129 14 [aR r, l1] (aR r :: st) s := Ze_n (i := (.aload_n 0)) (len := 1) (by decide +kernel) rfl
theorem x129_14 (h : obC r = 7) : Ze d 129 14 [l0, l1] (aR r :: st) s = Ze d 129 17 [l0, l1] (aR (fcn r 0) :: st) s := Ze_gf (len := 3) (idx := 15) (by decide +kernel) rfl h rfl
theorem x129_17 (h : obC r = 11) : Ze d 129 17 [l0, l1] (aR r :: st) s = Ze d 129 20 [l0, l1] (aR (fcn r 1) :: st) s := Ze_gf (len := 3) (idx := 78) (by decide +kernel) rfl h rfl
theorem x129_20 : Ze d 129 20 [aR r, l1] st s = Ze d 129 21 [aR r, l1] (aR r :: st) s := Ze_n (i := (.aload_n 0)) (len := 1) (by decide +kernel) rfl
theorem x129_21 (h : obC r = 7) : Ze d 129 21 [l0, l1] (aR r :: st) s = Ze d 129 24 [l0, l1] (aI (s r 4) :: st) s := Ze_gf (len := 3) (idx := 72) (by decide +kernel) rfl h rfl
theorem x129_24 (h0 : 0 ≤ i) (h1 : i < aN1 r) : Ze d 129 24 [l0, l1] (aI i :: aR r :: st) s = Ze d 129 25 [l0, l1] (aI (s r i.toNat) :: st) s := Ze_n (i := .iaload) (len := 1) (by decide +kernel) (if_pos ⟨h0, h1⟩)
theorem x129_25 : Ze d 129 25 [l0, l1] (aI z :: st) s = Ze d 129 26 [l0, aI z] st s := Ze_n (i := (.istore_n 1)) (len := 1) (by decide +kernel) rfl
theorem x129_26 : Ze d 129 26 [aR r, l1] st s = Ze d 129 27 [aR r, l1] (aR r :: st) s := Ze_n (i := (.aload_n 0)) (len := 1) (by decide +kernel) rfl
theorem x129_27 : Ze d 129 27 [l0, l1] (aR r :: st) s = Ze d 129 28 [l0, l1] (aR r :: aR r :: st) s := Ze_n (i := .dup) (len := 1) (by decide +kernel) rfl
theorem x129_27i : Ze d 129 27 [l0, l1] (aI a :: st) s = Ze d 129 28 [l0, l1] (aI a :: aI a :: st) s := Ze_n (i := .dup) (len := 1) (by decide +kernel) rfl
theorem x129_28 (h : obC r = 7) : Ze d 129 28 [l0, l1] (aR r :: st) s = Ze d 129 31 [l0, l1] (aI (s r 4) :: st) s := Ze_gf (len := 3) (idx := 72) (by decide +kernel) rfl h rfl
theorem x129_31 : Ze d 129 31 [l0, l1] st s = Ze d 129 32 [l0, l1] (aI 1 :: st) s := Ze_n (i := (.iconst 1)) (len := 1) (by decide +kernel) rfl
theorem x129_32 : Ze d 129 32 [l0, l1] (aI b :: aI a :: st) s = Ze d 129 33 [l0, l1] (aI (wrap (a + b)) :: st) s := Ze_n (i := .iadd) (len := 1) (by decide +kernel) rfl
theorem x129_33 (h : obC r = 7) : Ze d 129 33 [l0, l1] (aI z :: aR r :: st) s = Ze d 129 36 [l0, l1] st (mu s r 4 z) := Ze_n (i := .putfield 72) (len := 3) (by decide +kernel) (if_pos h)
theorem x129_36 : Ze d 129 36 [aR r, l1] st s = Ze d 129 37 [aR r, l1] (aR r :: st) s := Ze_n (i := (.aload_n 0)) (len := 1) (by decide +kernel) rfl
theorem x129_37 (h : obC r = 7) : Ze d 129 37 [l0, l1] (aR r :: st) s = Ze d 129 40 [l0, l1] (aR (fcn r 7) :: st) s := Ze_gf (len := 3) (idx := 9) (by decide +kernel) rfl h rfl
theorem x129_40 : Ze d 129 40 [aR r, l1] st s = Ze d 129 41 [aR r, l1] (aR r :: st) s := Ze_n (i := (.aload_n 0)) (len := 1) (by decide +kernel) rfl
theorem x129_41 (h : obC r = 7) : Ze d 129 41 [l0, l1] (aR r :: st) s = Ze d 129 44 [l0, l1] (aI (s r 6) :: st) s := Ze_gf (len := 3) (idx := 35) (by decide +kernel) rfl h rfl
theorem x129_44 : Ze d 129 44 [l0, l1] st s = Ze d 129 45 [l0, l1] (aI 1 :: st) s := Ze_n (i := (.iconst 1)) (len := 1) (by decide +kernel) rfl
theorem x129_45 : Ze d 129 45 [l0, l1] (aI b :: aI a :: st) s = Ze d 129 46 [l0, l1] (aI (wrap (a - b)) :: st) s := Ze_n (i := .isub) (len := 1) (by decide +kernel) rfl
theorem x129_46 (h0 : 0 ≤ i) (h1 : i < aN2 r) : Ze d 129 46 [l0, l1] (aI i :: aR r :: st) s = Ze d 129 47 [l0, l1] (aI (s r i.toNat) :: st) s := Ze_n (i := .baload) (len := 1) (by decide +kernel) (if_pos ⟨h0, h1⟩)
theorem x129_47 : Ze d 129 47 [l0, l1] (aI a :: st) s = if a = 0 then Ze d 129 50 [l0, l1] st s else Ze d 129 101 [l0, l1] st s := Ze_b (i := (.ifCond .ne 54)) (len := 3) (by decide +kernel) rfl
theorem x129_50 : Ze d 129 50 [aR r, l1] st s = Ze d 129 51 [aR r, l1] (aR r :: st) s := Ze_n (i := (.aload_n 0)) (len := 1) (by decide +kernel) rfl
theorem x129_51 (h : obC r = 7) : Ze d 129 51 [l0, l1] (aR r :: st) s = Ze d 129 54 [l0, l1] (aR (fcn r 2) :: st) s := Ze_gf (len := 3) (idx := 23) (by decide +kernel) rfl h rfl
theorem x129_54 : Ze d 129 54 [l0, l1] st s = Ze d 129 56 [l0, l1] (aI 58 :: st) s := Ze_n (i := (.bipush 58)) (len := 2) (by decide +kernel) rfl
theorem x129_56 : Ze d 129 56 [l0, aI z] st s = Ze d 129 57 [l0, aI z] (aI z :: st) s := Ze_n (i := (.iload_n 1)) (len := 1) (by decide +kernel) rfl
theorem x129_57 : Ze d 129 57 [l0, l1] st s = Ze d 129 58 [l0, l1] (aI 0 :: st) s := Ze_n (i := (.iconst 0)) (len := 1) (by decide +kernel) rfl
theorem x129_58 : Ze d 129 58 [l0, l1] st s = Ze d 129 59 [l0, l1] (aI 0 :: st) s := Ze_n (i := (.iconst 0)) (len := 1) (by decide +kernel) rfl
theorem x129_59 (h : obC r = 10) (h6 : st.length ≤ 4) : Ze d 129 59 [l0, l1] (aI a4 :: aI a3 :: aI a2 :: aI a1 :: aR r :: st) s = zcV (Zc d 154 [aR r, aI a1, aI a2, aI a3, aI a4] s) d 129 62 [l0, l1] st := Ze_cvV (idx := 95) (len := 3) (as := [aI a1, aI a2, aI a3, aI a4]) (by decide +kernel) rfl (by decide +kernel) rfl h h6
theorem x129_62 : Ze d 129 62 [aR r, l1] st s = Ze d 129 63 [aR r, l1] (aR r :: st) s := Ze_n (i := (.aload_n 0)) (len := 1) (by decide +kernel) rfl
theorem x129_63 (h : obC r = 7) (h6 : st.length ≤ 4) : Ze d 129 63 [l0, l1] (aR r :: st) s = zcI (Zc d 138 [aR r] s) d 129 66 [l0, l1] st := Ze_cvI (idx := 38) (len := 3) (as := []) (by decide +kernel) rfl (by decide +kernel) rfl h h6
theorem x129_66 : Ze d 129 66 [l0, l1] st s = Ze d 129 68 [l0, l1] (aI 58 :: st) s := Ze_n (i := (.bipush 58)) (len := 2) (by decide +kernel) rfl
theorem x129_68 : Ze d 129 68 [l0, l1] (aI b :: aI a :: st) s = if a = b then Ze d 129 71 [l0, l1] st s else Ze d 129 101 [l0, l1] st s := Ze_b (i := (.if_icmp .ne 33)) (len := 3) (by decide +kernel) rfl
theorem x129_71 : Ze d 129 71 [aR r, l1] st s = Ze d 129 72 [aR r, l1] (aR r :: st) s := Ze_n (i := (.aload_n 0)) (len := 1) (by decide +kernel) rfl
theorem x129_72 : Ze d 129 72 [l0, l1] (aR r :: st) s = Ze d 129 73 [l0, l1] (aR r :: aR r :: st) s := Ze_n (i := .dup) (len := 1) (by decide +kernel) rfl
theorem x129_72i : Ze d 129 72 [l0, l1] (aI a :: st) s = Ze d 129 73 [l0, l1] (aI a :: aI a :: st) s := Ze_n (i := .dup) (len := 1) (by decide +kernel) rfl
theorem x129_73 (h : obC r = 7) : Ze d 129 73 [l0, l1] (aR r :: st) s = Ze d 129 76 [l0, l1] (aI (s r 4) :: st) s := Ze_gf (len := 3) (idx := 72) (by decide +kernel) rfl h rfl
theorem x129_76 : Ze d 129 76 [l0, l1] st s = Ze d 129 77 [l0, l1] (aI 1 :: st) s := Ze_n (i := (.iconst 1)) (len := 1) (by decide +kernel) rfl
theorem x129_77 : Ze d 129 77 [l0, l1] (aI b :: aI a :: st) s = Ze d 129 78 [l0, l1] (aI (wrap (a + b)) :: st) s := Ze_n (i := .iadd) (len := 1) (by decide +kernel) rfl
theorem x129_78 (h : obC r = 7) : Ze d 129 78 [l0, l1] (aI z :: aR r :: st) s = Ze d 129 81 [l0, l1] st (mu s r 4 z) := Ze_n (i := .putfield 72) (len := 3) (by decide +kernel) (if_pos h)
theorem x129_81 : Ze d 129 81 [aR r, l1] st s = Ze d 129 82 [aR r, l1] (aR r :: st) s := Ze_n (i := (.aload_n 0)) (len := 1) (by decide +kernel) rfl
theorem x129_82 (h : obC r = 7) : Ze d 129 82 [l0, l1] (aR r :: st) s = Ze d 129 85 [l0, l1] (aR (fcn r 7) :: st) s := Ze_gf (len := 3) (idx := 9) (by decide +kernel) rfl h rfl
theorem x129_85 : Ze d 129 85 [aR r, l1] st s = Ze d 129 86 [aR r, l1] (aR r :: st) s := Ze_n (i := (.aload_n 0)) (len := 1) (by decide +kernel) rfl
theorem x129_86 (h : obC r = 7) : Ze d 129 86 [l0, l1] (aR r :: st) s = Ze d 129 89 [l0, l1] (aI (s r 6) :: st) s := Ze_gf (len := 3) (idx := 35) (by decide +kernel) rfl h rfl
theorem x129_89 : Ze d 129 89 [l0, l1] st s = Ze d 129 90 [l0, l1] (aI 1 :: st) s := Ze_n (i := (.iconst 1)) (len := 1) (by decide +kernel) rfl
theorem x129_90 : Ze d 129 90 [l0, l1] (aI b :: aI a :: st) s = Ze d 129 91 [l0, l1] (aI (wrap (a - b)) :: st) s := Ze_n (i := .isub) (len := 1) (by decide +kernel) rfl
theorem x129_91 : Ze d 129 91 [l0, l1] st s = Ze d 129 92 [l0, l1] (aI 1 :: st) s := Ze_n (i := (.iconst 1)) (len := 1) (by decide +kernel) rfl
theorem x129_92 (h0 : 0 ≤ i) (h1 : i < aN2 r) (h2 : z = 0 ∨ z = 1) : Ze d 129 92 [l0, l1] (aI z :: aI i :: aR r :: st) s = Ze d 129 93 [l0, l1] st (mu s r i.toNat z) := Ze_n (i := .bastore) (len := 1) (by decide +kernel) (if_pos ⟨h0, h1, h2⟩)
theorem x129_93 : Ze d 129 93 [aR r, l1] st s = Ze d 129 94 [aR r, l1] (aR r :: st) s := Ze_n (i := (.aload_n 0)) (len := 1) (by decide +kernel) rfl
theorem x129_94 : Ze d 129 94 [l0, l1] st s = Ze d 129 96 [l0, l1] (aI 123 :: st) s := Ze_n (i := (.bipush 123)) (len := 2) (by decide +kernel) rfl
theorem x129_96 (h : obC r = 7) (h6 : st.length ≤ 4) : Ze d 129 96 [l0, l1] (aI a1 :: aR r :: st) s = zcI (Zc d 141 [aR r, aI a1] s) d 129 99 [l0, l1] st := Ze_cvI (idx := 87) (len := 3) (as := [aI a1]) (by decide +kernel) rfl (by decide +kernel) rfl h h6
theorem x129_99 : Ze d 129 99 [l0, l1] (aI a :: st) s = Ze d 129 100 [l0, l1] st s := Ze_n (i := .pop) (len := 1) (by decide +kernel) rfl
theorem x129_100 : Ze d 129 100 [l0, l1] [] s = rV s := Ze_v (by decide +kernel) rfl
theorem x129_101 : Ze d 129 101 [aR r, l1] st s = Ze d 129 102 [aR r, l1] (aR r :: st) s := Ze_n (i := (.aload_n 0)) (len := 1) (by decide +kernel) rfl
theorem x129_102 (h : obC r = 7) : Ze d 129 102 [l0, l1] (aR r :: st) s = Ze d 129 105 [l0, l1] (aR (fcn r 2) :: st) s := Ze_gf (len := 3) (idx := 23) (by decide +kernel) rfl h rfl
theorem x129_105 : Ze d 129 105 [l0, l1] st s = Ze d 129 107 [l0, l1] (aI 125 :: st) s := Ze_n (i := (.bipush 125)) (len := 2) (by decide +kernel) rfl
theorem x129_107 : Ze d 129 107 [l0, aI z] st s = Ze d 129 108 [l0, aI z] (aI z :: st) s := Ze_n (i := (.iload_n 1)) (len := 1) (by decide +kernel) rfl
theorem x129_108 : Ze d 129 108 [l0, l1] st s = Ze d 129 109 [l0, l1] (aI 0 :: st) s := Ze_n (i := (.iconst 0)) (len := 1) (by decide +kernel) rfl
theorem x129_109 : Ze d 129 109 [l0, l1] st s = Ze d 129 110 [l0, l1] (aI 0 :: st) s := Ze_n (i := (.iconst 0)) (len := 1) (by decide +kernel) rfl
theorem x129_110 (h : obC r = 10) (h6 : st.length ≤ 4) : Ze d 129 110 [l0, l1] (aI a4 :: aI a3 :: aI a2 :: aI a1 :: aR r :: st) s = zcV (Zc d 154 [aR r, aI a1, aI a2, aI a3, aI a4] s) d 129 113 [l0, l1] st := Ze_cvV (idx := 95) (len := 3) (as := [aI a1, aI a2, aI a3, aI a4]) (by decide +kernel) rfl (by decide +kernel) rfl h h6
theorem x129_113 : Ze d 129 113 [aR r, l1] st s = Ze d 129 114 [aR r, l1] (aR r :: st) s := Ze_n (i := (.aload_n 0)) (len := 1) (by decide +kernel) rfl
theorem x129_114 : Ze d 129 114 [l0, l1] (aR r :: st) s = Ze d 129 115 [l0, l1] (aR r :: aR r :: st) s := Ze_n (i := .dup) (len := 1) (by decide +kernel) rfl
theorem x129_114i : Ze d 129 114 [l0, l1] (aI a :: st) s = Ze d 129 115 [l0, l1] (aI a :: aI a :: st) s := Ze_n (i := .dup) (len := 1) (by decide +kernel) rfl
theorem x129_115 (h : obC r = 7) : Ze d 129 115 [l0, l1] (aR r :: st) s = Ze d 129 118 [l0, l1] (aI (s r 6) :: st) s := Ze_gf (len := 3) (idx := 35) (by decide +kernel) rfl h rfl
theorem x129_118 : Ze d 129 118 [l0, l1] st s = Ze d 129 119 [l0, l1] (aI 1 :: st) s := Ze_n (i := (.iconst 1)) (len := 1) (by decide +kernel) rfl
theorem x129_119 : Ze d 129 119 [l0, l1] (aI b :: aI a :: st) s = Ze d 129 120 [l0, l1] (aI (wrap (a - b)) :: st) s := Ze_n (i := .isub) (len := 1) (by decide +kernel) rfl
theorem x129_120 (h : obC r = 7) : Ze d 129 120 [l0, l1] (aI z :: aR r :: st) s = Ze d 129 123 [l0, l1] st (mu s r 6 z) := Ze_n (i := .putfield 35) (len := 3) (by decide +kernel) (if_pos h)
theorem x129_123 : Ze d 129 123 [l0, l1] [] s = rV s := Ze_v (by decide +kernel) rfl
theorem en129 : Zc (d + 1) 129 [aR r] s = Ze d 129 0 [aR r, aU] [] s := rfl
theorem x154_0 : Ze d 154 0 [aR r, l1, l2, l3, l4] st s = Ze d 154 1 [aR r, l1, l2, l3, l4] (aR r :: st) s := Ze_n (i := (.aload_n 0)) (len := 1) (by decide +kernel) rfl
theorem x154_1 (h : obC r = 10) : Ze d 154 1 [l0, l1, l2, l3, l4] (aR r :: st) s = Ze d 154 4 [l0, l1, l2, l3, l4] (aR (fcn r 0) :: st) s := Ze_gf (len := 3) (idx := 9) (by decide +kernel) rfl h rfl
theorem x154_4 : Ze d 154 4 [aR r, l1, l2, l3, l4] st s = Ze d 154 5 [aR r, l1, l2, l3, l4] (aR r :: st) s := Ze_n (i := (.aload_n 0)) (len := 1) (by decide +kernel) rfl
theorem x154_5 (h : obC r = 10) : Ze d 154 5 [l0, l1, l2, l3, l4] (aR r :: st) s = Ze d 154 8 [l0, l1, l2, l3, l4] (aI (s r 4) :: st) s := Ze_gf (len := 3) (idx := 27) (by decide +kernel) rfl h rfl
theorem x154_8 : Ze d 154 8 [l0, aI z, l2, l3, l4] st s = Ze d 154 9 [l0, aI z, l2, l3, l4] (aI z :: st) s := Ze_n (i := (.iload_n 1)) (len := 1) (by decide +kernel) rfl
theorem x154_9 (h0 : 0 ≤ i) (h1 : i < aN1 r) : Ze d 154 9 [l0, l1, l2, l3, l4] (aI z :: aI i :: aR r :: st) s = Ze d 154 10 [l0, l1, l2, l3, l4] st (mu s r i.toNat z) := Ze_n (i := .iastore) (len := 1) (by decide +kernel) (if_pos ⟨h0, h1⟩)
theorem x154_10 : Ze d 154 10 [aR r, l1, l2, l3, l4] st s = Ze d 154 11 [aR r, l1, l2, l3, l4] (aR r :: st) s := Ze_n (i := (.aload_n 0)) (len := 1) (by decide +kernel) rfl
theorem x154_11 (h : obC r = 10) : Ze d 154 11 [l0, l1, l2, l3, l4] (aR r :: st) s = Ze d 154 14 [l0, l1, l2, l3, l4] (aR (fcn r 1) :: st) s := Ze_gf (len := 3) (idx := 15) (by decide +kernel) rfl h rfl
theorem x154_14 : Ze d 154 14 [aR r, l1, l2, l3, l4] st s = Ze d 154 15 [aR r, l1, l2, l3, l4] (aR r :: st) s := Ze_n (i := (.aload_n 0)) (len := 1) (by decide +kernel) rfl
theorem x154_15 (h : obC r = 10) : Ze d 154 15 [l0, l1, l2, l3, l4] (aR r :: st) s = Ze d 154 18 [l0, l1, l2, l3, l4] (aI (s r 4) :: st) s := Ze_gf (len := 3) (idx := 27) (by decide +kernel) rfl h rfl
theorem x154_18 : Ze d 154 18 [l0, l1, aI z, l3, l4] st s = Ze d 154 19 [l0, l1, aI z, l3, l4] (aI z :: st) s := Ze_n (i := (.iload_n 2)) (len := 1) (by decide +kernel) rfl
theorem x154_19 (h0 : 0 ≤ i) (h1 : i < aN1 r) : Ze d 154 19 [l0, l1, l2, l3, l4] (aI z :: aI i :: aR r :: st) s = Ze d 154 20 [l0, l1, l2, l3, l4] st (mu s r i.toNat z) := Ze_n (i := .iastore) (len := 1) (by decide +kernel) (if_pos ⟨h0, h1⟩)
theorem x154_20 : Ze d 154 20 [aR r, l1, l2, l3, l4] st s = Ze d 154 21 [aR r, l1, l2, l3, l4] (aR r :: st) s := Ze_n (i := (.aload_n 0)) (len := 1) (by decide +kernel) rfl
theorem x154_21 (h : obC r = 10) : Ze d 154 21 [l0, l1, l2, l3, l4] (aR r :: st) s = Ze d 154 24 [l0, l1, l2, l3, l4] (aR (fcn r 2) :: st) s := Ze_gf (len := 3) (idx := 18) (by decide +kernel) rfl h rfl
theorem x154_24 : Ze d 154 24 [aR r, l1, l2, l3, l4] st s = Ze d 154 25 [aR r, l1, l2, l3, l4] (aR r :: st) s := Ze_n (i := (.aload_n 0)) (len := 1) (by decide +kernel) rfl
theorem x154_25 (h : obC r = 10) : Ze d 154 25 [l0, l1, l2, l3, l4] (aR r :: st) s = Ze d 154 28 [l0, l1, l2, l3, l4] (aI (s r 4) :: st) s := Ze_gf (len := 3) (idx := 27) (by decide +kernel) rfl h rfl
theorem x154_28 : Ze d 154 28 [l0, l1, l2, aI z, l4] st s = Ze d 154 29 [l0, l1, l2, aI z, l4] (aI z :: st) s := Ze_n (i := (.iload_n 3)) (len := 1) (by decide +kernel) rfl
theorem x154_29 (h0 : 0 ≤ i) (h1 : i < aN1 r) : Ze d 154 29 [l0, l1, l2, l3, l4] (aI z :: aI i :: aR r :: st) s = Ze d 154 30 [l0, l1, l2, l3, l4] st (mu s r i.toNat z) := Ze_n (i := .iastore) (len := 1) (by decide +kernel) (if_pos ⟨h0, h1⟩)
theorem x154_30 : Ze d 154 30 [aR r, l1, l2, l3, l4] st s = Ze d 154 31 [aR r, l1, l2, l3, l4] (aR r :: st) s := Ze_n (i := (.aload_n 0)) (len := 1) (by decide +kernel) rfl
theorem x154_31 (h : obC r = 10) : Ze d 154 31 [l0, l1, l2, l3, l4] (aR r :: st) s = Ze d 154 34 [l0, l1, l2, l3, l4] (aR (fcn r 3) :: st) s := Ze_gf (len := 3) (idx := 21) (by decide +kernel) rfl h rfl
theorem x154_34 : Ze d 154 34 [aR r, l1, l2, l3, l4] st s = Ze d 154 35 [aR r, l1, l2, l3, l4] (aR r :: st) s := Ze_n (i := (.aload_n 0)) (len := 1) (by decide +kernel) rfl
theorem x154_35 (h : obC r = 10) : Ze d 154 35 [l0, l1, l2, l3, l4] (aR r :: st) s = Ze d 154 38 [l0, l1, l2, l3, l4] (aI (s r 4) :: st) s := Ze_gf (len := 3) (idx := 27) (by decide +kernel) rfl h rfl
theorem x154_38 : Ze d 154 38 [l0, l1, l2, l3, aI z] st s = Ze d 154 40 [l0, l1, l2, l3, aI z] (aI z :: st) s := Ze_n (i := (.iload 4)) (len := 2) (by decide +kernel) rfl
theorem x154_40 (h0 : 0 ≤ i) (h1 : i < aN1 r) : Ze d 154 40 [l0, l1, l2, l3, l4] (aI z :: aI i :: aR r :: st) s = Ze d 154 41 [l0, l1, l2, l3, l4] st (mu s r i.toNat z) := Ze_n (i := .iastore) (len := 1) (by decide +kernel) (if_pos ⟨h0, h1⟩)
theorem x154_41 : Ze d 154 41 [aR r, l1, l2, l3, l4] st s = Ze d 154 42 [aR r, l1, l2, l3, l4] (aR r :: st) s := Ze_n (i := (.aload_n 0)) (len := 1) (by decide +kernel) rfl
theorem x154_42 : Ze d 154 42 [l0, l1, l2, l3, l4] (aR r :: st) s = Ze d 154 43 [l0, l1, l2, l3, l4] (aR r :: aR r :: st) s := Ze_n (i := .dup) (len := 1) (by decide +kernel) rfl
theorem x154_42i : Ze d 154 42 [l0, l1, l2, l3, l4] (aI a :: st) s = Ze d 154 43 [l0, l1, l2, l3, l4] (aI a :: aI a :: st) s := Ze_n (i := .dup) (len := 1) (by decide +kernel) rfl
theorem x154_43 (h : obC r = 10) : Ze d 154 43 [l0, l1, l2, l3, l4] (aR r :: st) s = Ze d 154 46 [l0, l1, l2, l3, l4] (aI (s r 4) :: st) s := Ze_gf (len := 3) (idx := 27) (by decide +kernel) rfl h rfl
theorem x154_46 : Ze d 154 46 [l0, l1, l2, l3, l4] st s = Ze d 154 47 [l0, l1, l2, l3, l4] (aI 1 :: st) s := Ze_n (i := (.iconst 1)) (len := 1) (by decide +kernel) rfl
theorem x154_47 : Ze d 154 47 [l0, l1, l2, l3, l4] (aI b :: aI a :: st) s = Ze d 154 48 [l0, l1, l2, l3, l4] (aI (wrap (a + b)) :: st) s := Ze_n (i := .iadd) (len := 1) (by decide +kernel) rfl
theorem x154_48 (h : obC r = 10) : Ze d 154 48 [l0, l1, l2, l3, l4] (aI z :: aR r :: st) s = Ze d 154 51 [l0, l1, l2, l3, l4] st (mu s r 4 z) := Ze_n (i := .putfield 27) (len := 3) (by decide +kernel) (if_pos h)
theorem x154_51 : Ze d 154 51 [l0, l1, l2, l3, l4] [] s = rV s := Ze_v (by decide +kernel) rfl
theorem en154 : Zc (d + 1) 154 [aR r, aI a1, aI a2, aI a3, aI a4] s = Ze d 154 0 [aR r, aI a1, aI a2, aI a3, aI a4] [] s := rfl
