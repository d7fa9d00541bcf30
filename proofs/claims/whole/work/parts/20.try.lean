variable {d r q : Nat} {l0 l1 l2 l3 l4 l5 l6 l7 l8 l9 l10 l11 : AV} {st : List AV} {s : Mem} {a b z i n dp sp a0 a1 a2 a3 a4 a5 a6 : Int} {r0 r1 r2 r3 r4 : Nat}
theorem obC_0 : obC 0 = 0 := rfl
theorem aN1_1 : aN1 1 = 200 := rfl
theorem aN1_2 : aN1 2 = 220 := rfl
theorem aN1_3 : aN1 3 = 220 := rfl
theorem aN1_4 : aN1 4 = 220 := rfl
theorem aN1_5 : aN1 5 = 220 := rfl
theorem aN1_6 : aN1 6 = 120 := rfl
theorem aN1_7 : aN1 7 = 120 := rfl
theorem aN1_8 : aN1 8 = 120 := rfl
theorem aN1_9 : aN1 9 = 120 := rfl
theorem aN1_10 : aN1 10 = 4 := rfl
theorem aN1_11 : aN1 11 = 4 := rfl
theorem aN1_12 : aN1 12 = 440 := rfl
theorem aN1_13 : aN1 13 = 440 := rfl
theorem aN1_14 : aN1 14 = 440 := rfl
theorem aN1_15 : aN1 15 = 440 := rfl
theorem aN1_16 : aN1 16 = 440 := rfl
theorem aN1_17 : aN1 17 = 440 := rfl
theorem aN1_18 : aN1 18 = 440 := rfl
theorem aN1_19 : aN1 19 = 440 := rfl
theorem aN1_20 : aN1 20 = 1320 := rfl
theorem aN1_21 : aN1 21 = 220 := rfl
theorem aN1_22 : aN1 22 = 220 := rfl
theorem aN1_23 : aN1 23 = 8 := rfl
theorem aN1_24 : aN1 24 = 8 := rfl
theorem aN1_25 : aN1 25 = 120 := rfl
theorem aN1_26 : aN1 26 = 120 := rfl
theorem aN1_27 : aN1 27 = 120 := rfl
theorem aN1_28 : aN1 28 = 120 := rfl
theorem aN1_29 : aN1 29 = 120 := rfl
theorem aN1_30 : aN1 30 = 120 := rfl
theorem aN1_31 : aN1 31 = 4 := rfl
theorem aN1_32 : aN1 32 = 26 := rfl
theorem aN1_33 : aN1 33 = 26 := rfl
theorem aN1_34 : aN1 34 = 26 := rfl
theorem aN1_35 : aN1 35 = 48 := rfl
theorem aN1_36 : aN1 36 = 48 := rfl
theorem aN1_37 : aN1 37 = 48 := rfl
theorem aN1_38 : aN1 38 = 48 := rfl
theorem aN1_39 : aN1 39 = 48 := rfl
theorem aN1_40 : aN1 40 = 48 := rfl
theorem aN1_41 : aN1 41 = 2200 := rfl
theorem aN1_42 : aN1 42 = 2200 := rfl
theorem aN1_43 : aN1 43 = 2200 := rfl
theorem aN1_44 : aN1 44 = 24 := rfl
theorem aN1_45 : aN1 45 = 24 := rfl
theorem aN1_46 : aN1 46 = 24 := rfl
theorem aN1_47 : aN1 47 = 24 := rfl
theorem aN1_48 : aN1 48 = 24 := rfl
theorem aN2_49 : aN2 49 = 24 := rfl
theorem aN2_50 : aN2 50 = 5 := rfl
theorem aN2_51 : aN2 51 = 5 := rfl
theorem aN2_52 : aN2 52 = 5 := rfl
theorem aN1_53 : aN1 53 = 5 := rfl
theorem aN1_54 : aN1 54 = 5 := rfl
theorem aN1_55 : aN1 55 = 5 := rfl
theorem obC_58 : obC 58 = 1 := rfl
theorem aN3_59 : aN3 59 = 200 := rfl
theorem obC_60 : obC 60 = 3 := rfl
theorem obC_61 : obC 61 = 8 := rfl
theorem aN1_62 : aN1 62 = 24 := rfl
theorem aN1_63 : aN1 63 = 24 := rfl
theorem aN1_64 : aN1 64 = 24 := rfl
theorem aN2_65 : aN2 65 = 24 := rfl
theorem aN2_66 : aN2 66 = 24 := rfl
theorem aN2_67 : aN2 67 = 24 := rfl
theorem obC_68 : obC 68 = 6 := rfl
theorem aN1_69 : aN1 69 = 225 := rfl
theorem aN1_70 : aN1 70 = 225 := rfl
theorem aN1_71 : aN1 71 = 225 := rfl
theorem aN1_72 : aN1 72 = 225 := rfl
theorem aN1_73 : aN1 73 = 225 := rfl
theorem aN1_74 : aN1 74 = 225 := rfl
theorem aN1_75 : aN1 75 = 225 := rfl
theorem aN1_76 : aN1 76 = 840 := rfl
theorem aN1_77 : aN1 77 = 840 := rfl
theorem aN1_78 : aN1 78 = 840 := rfl
theorem aN1_79 : aN1 79 = 24 := rfl
theorem aN1_80 : aN1 80 = 24 := rfl
theorem aN1_81 : aN1 81 = 24 := rfl
theorem aN1_82 : aN1 82 = 24 := rfl
theorem aN1_83 : aN1 83 = 24 := rfl
theorem aN1_84 : aN1 84 = 24 := rfl
theorem aN1_85 : aN1 85 = 24 := rfl
theorem obC_86 : obC 86 = 3 := rfl
theorem obC_87 : obC 87 = 8 := rfl
theorem aN1_88 : aN1 88 = 24 := rfl
theorem aN1_89 : aN1 89 = 24 := rfl
theorem aN1_90 : aN1 90 = 24 := rfl
theorem aN2_91 : aN2 91 = 24 := rfl
theorem aN2_92 : aN2 92 = 24 := rfl
theorem aN2_93 : aN2 93 = 24 := rfl
theorem obC_94 : obC 94 = 6 := rfl
theorem aN1_95 : aN1 95 = 225 := rfl
theorem aN1_96 : aN1 96 = 225 := rfl
theorem aN1_97 : aN1 97 = 225 := rfl
theorem aN1_98 : aN1 98 = 225 := rfl
theorem aN1_99 : aN1 99 = 225 := rfl
theorem aN1_100 : aN1 100 = 225 := rfl
theorem aN1_101 : aN1 101 = 225 := rfl
theorem aN1_102 : aN1 102 = 840 := rfl
theorem aN1_103 : aN1 103 = 840 := rfl
theorem aN1_104 : aN1 104 = 840 := rfl
theorem aN1_105 : aN1 105 = 24 := rfl
theorem aN1_106 : aN1 106 = 24 := rfl
theorem aN1_107 : aN1 107 = 24 := rfl
theorem aN1_108 : aN1 108 = 24 := rfl
theorem aN1_109 : aN1 109 = 24 := rfl
theorem aN1_110 : aN1 110 = 24 := rfl
theorem aN1_111 : aN1 111 = 24 := rfl
theorem obC_112 : obC 112 = 11 := rfl
theorem aN1_113 : aN1 113 = 201 := rfl
theorem aN1_114 : aN1 114 = 201 := rfl
theorem aN1_115 : aN1 115 = 201 := rfl
theorem obC_116 : obC 116 = 12 := rfl
theorem aN1_117 : aN1 117 = 201 := rfl
theorem aN1_118 : aN1 118 = 201 := rfl
theorem aN1_119 : aN1 119 = 201 := rfl
theorem aN1_120 : aN1 120 = 201 := rfl
theorem aN1_121 : aN1 121 = 200 := rfl
theorem aN2_122 : aN2 122 = 200 := rfl
theorem aN1_123 : aN1 123 = 200 := rfl
theorem aN1_124 : aN1 124 = 200 := rfl
theorem aN1_125 : aN1 125 = 200 := rfl
theorem obC_126 : obC 126 = 10 := rfl
theorem aN1_127 : aN1 127 = 200 := rfl
theorem aN1_128 : aN1 128 = 200 := rfl
theorem aN1_129 : aN1 129 = 200 := rfl
theorem aN1_130 : aN1 130 = 200 := rfl
theorem aN1_131 : aN1 131 = 200 := rfl
theorem obC_132 : obC 132 = 4 := rfl
theorem obC_133 : obC 133 = 7 := rfl
theorem aN2_134 : aN2 134 = 3 := rfl
theorem obC_135 : obC 135 = 2 := rfl
theorem aN1_136 : aN1 136 = 26 := rfl
theorem aN1_137 : aN1 137 = 26 := rfl
theorem obC_138 : obC 138 = 9 := rfl
theorem obC_139 : obC 139 = 5 := rfl
theorem aN1_140 : aN1 140 = 1065 := rfl
theorem aN1_141 : aN1 141 = 24 := rfl
theorem aN4_142 : aN4 142 = 3 := rfl
theorem aN1_143 : aN1 143 = 24 := rfl
theorem aN1_144 : aN1 144 = 24 := rfl
theorem aN1_145 : aN1 145 = 24 := rfl
theorem aN4_146 : aN4 146 = 3 := rfl
theorem aN1_147 : aN1 147 = 24 := rfl
theorem aN1_148 : aN1 148 = 24 := rfl
theorem aN1_149 : aN1 149 = 24 := rfl
theorem aN1_150 : aN1 150 = 3 := rfl
theorem aN1_151 : aN1 151 = 3 := rfl
theorem aN1_152 : aN1 152 = 24 := rfl
theorem fcn_0_0 : fcn 0 0 = 1 := rfl
theorem fcn_0_6 : fcn 0 6 = 2 := rfl
theorem fcn_0_7 : fcn 0 7 = 3 := rfl
theorem fcn_0_8 : fcn 0 8 = 4 := rfl
theorem fcn_0_9 : fcn 0 9 = 5 := rfl
theorem fcn_0_10 : fcn 0 10 = 6 := rfl
theorem fcn_0_11 : fcn 0 11 = 7 := rfl
theorem fcn_0_12 : fcn 0 12 = 8 := rfl
theorem fcn_0_13 : fcn 0 13 = 9 := rfl
theorem fcn_0_14 : fcn 0 14 = 10 := rfl
theorem fcn_0_15 : fcn 0 15 = 11 := rfl
theorem fcn_0_19 : fcn 0 19 = 12 := rfl
theorem fcn_0_20 : fcn 0 20 = 13 := rfl
theorem fcn_0_21 : fcn 0 21 = 14 := rfl
theorem fcn_0_22 : fcn 0 22 = 15 := rfl
theorem fcn_0_23 : fcn 0 23 = 16 := rfl
theorem fcn_0_24 : fcn 0 24 = 17 := rfl
theorem fcn_0_25 : fcn 0 25 = 18 := rfl
theorem fcn_0_26 : fcn 0 26 = 19 := rfl
theorem fcn_0_27 : fcn 0 27 = 20 := rfl
theorem fcn_0_28 : fcn 0 28 = 21 := rfl
theorem fcn_0_29 : fcn 0 29 = 22 := rfl
theorem fcn_0_30 : fcn 0 30 = 23 := rfl
theorem fcn_0_31 : fcn 0 31 = 24 := rfl
theorem fcn_0_33 : fcn 0 33 = 25 := rfl
theorem fcn_0_34 : fcn 0 34 = 26 := rfl
theorem fcn_0_35 : fcn 0 35 = 27 := rfl
theorem fcn_0_36 : fcn 0 36 = 28 := rfl
theorem fcn_0_37 : fcn 0 37 = 29 := rfl
theorem fcn_0_38 : fcn 0 38 = 30 := rfl
theorem fcn_0_39 : fcn 0 39 = 31 := rfl
theorem fcn_0_41 : fcn 0 41 = 32 := rfl
theorem fcn_0_42 : fcn 0 42 = 33 := rfl
theorem fcn_0_43 : fcn 0 43 = 34 := rfl
theorem fcn_0_44 : fcn 0 44 = 35 := rfl
theorem fcn_0_45 : fcn 0 45 = 36 := rfl
theorem fcn_0_46 : fcn 0 46 = 37 := rfl
theorem fcn_0_47 : fcn 0 47 = 38 := rfl
theorem fcn_0_48 : fcn 0 48 = 39 := rfl
theorem fcn_0_49 : fcn 0 49 = 40 := rfl
theorem fcn_0_54 : fcn 0 54 = 41 := rfl
theorem fcn_0_55 : fcn 0 55 = 42 := rfl
theorem fcn_0_56 : fcn 0 56 = 43 := rfl
theorem fcn_0_59 : fcn 0 59 = 44 := rfl
theorem fcn_0_60 : fcn 0 60 = 45 := rfl
theorem fcn_0_61 : fcn 0 61 = 46 := rfl
theorem fcn_0_62 : fcn 0 62 = 47 := rfl
theorem fcn_0_63 : fcn 0 63 = 48 := rfl
theorem fcn_0_64 : fcn 0 64 = 49 := rfl
theorem fcn_0_65 : fcn 0 65 = 50 := rfl
theorem fcn_0_66 : fcn 0 66 = 51 := rfl
theorem fcn_0_67 : fcn 0 67 = 52 := rfl
theorem fcn_0_68 : fcn 0 68 = 53 := rfl
theorem fcn_0_69 : fcn 0 69 = 54 := rfl
theorem fcn_0_70 : fcn 0 70 = 55 := rfl
theorem fcn_58_0 : fcn 58 0 = 59 := rfl
theorem fcn_58_6 : fcn 58 6 = 112 := rfl
theorem fcn_58_7 : fcn 58 7 = 133 := rfl
theorem fcn_58_8 : fcn 58 8 = 135 := rfl
theorem fcn_58_9 : fcn 58 9 = 138 := rfl
theorem fcn_58_10 : fcn 58 10 = 139 := rfl
theorem fcn_60_0 : fcn 60 0 = 61 := rfl
theorem fcn_60_1 : fcn 60 1 = 68 := rfl
theorem fcn_60_3 : fcn 60 3 = 76 := rfl
theorem fcn_60_4 : fcn 60 4 = 77 := rfl
theorem fcn_60_5 : fcn 60 5 = 78 := rfl
theorem fcn_60_7 : fcn 60 7 = 79 := rfl
theorem fcn_60_8 : fcn 60 8 = 80 := rfl
theorem fcn_60_9 : fcn 60 9 = 81 := rfl
theorem fcn_60_11 : fcn 60 11 = 82 := rfl
theorem fcn_60_12 : fcn 60 12 = 83 := rfl
theorem fcn_60_13 : fcn 60 13 = 84 := rfl
theorem fcn_60_14 : fcn 60 14 = 85 := rfl
theorem fcn_61_0 : fcn 61 0 = 62 := rfl
theorem fcn_61_1 : fcn 61 1 = 63 := rfl
theorem fcn_61_2 : fcn 61 2 = 64 := rfl
theorem fcn_61_3 : fcn 61 3 = 65 := rfl
theorem fcn_61_4 : fcn 61 4 = 66 := rfl
theorem fcn_61_5 : fcn 61 5 = 67 := rfl
theorem fcn_68_0 : fcn 68 0 = 69 := rfl
theorem fcn_68_1 : fcn 68 1 = 70 := rfl
theorem fcn_68_2 : fcn 68 2 = 71 := rfl
theorem fcn_68_3 : fcn 68 3 = 72 := rfl
theorem fcn_68_4 : fcn 68 4 = 73 := rfl
theorem fcn_68_5 : fcn 68 5 = 74 := rfl
theorem fcn_68_6 : fcn 68 6 = 75 := rfl
theorem fcn_86_0 : fcn 86 0 = 87 := rfl
theorem fcn_86_1 : fcn 86 1 = 94 := rfl
theorem fcn_86_3 : fcn 86 3 = 102 := rfl
theorem fcn_86_4 : fcn 86 4 = 103 := rfl
theorem fcn_86_5 : fcn 86 5 = 104 := rfl
theorem fcn_86_7 : fcn 86 7 = 105 := rfl
theorem fcn_86_8 : fcn 86 8 = 106 := rfl
theorem fcn_86_9 : fcn 86 9 = 107 := rfl
theorem fcn_86_11 : fcn 86 11 = 108 := rfl
theorem fcn_86_12 : fcn 86 12 = 109 := rfl
theorem fcn_86_13 : fcn 86 13 = 110 := rfl
theorem fcn_86_14 : fcn 86 14 = 111 := rfl
theorem fcn_87_0 : fcn 87 0 = 88 := rfl
theorem fcn_87_1 : fcn 87 1 = 89 := rfl
theorem fcn_87_2 : fcn 87 2 = 90 := rfl
theorem fcn_87_3 : fcn 87 3 = 91 := rfl
theorem fcn_87_4 : fcn 87 4 = 92 := rfl
theorem fcn_87_5 : fcn 87 5 = 93 := rfl
theorem fcn_94_0 : fcn 94 0 = 95 := rfl
theorem fcn_94_1 : fcn 94 1 = 96 := rfl
theorem fcn_94_2 : fcn 94 2 = 97 := rfl
theorem fcn_94_3 : fcn 94 3 = 98 := rfl
theorem fcn_94_4 : fcn 94 4 = 99 := rfl
theorem fcn_94_5 : fcn 94 5 = 100 := rfl
theorem fcn_94_6 : fcn 94 6 = 101 := rfl
theorem fcn_112_0 : fcn 112 0 = 113 := rfl
theorem fcn_112_1 : fcn 112 1 = 114 := rfl
theorem fcn_112_2 : fcn 112 2 = 115 := rfl
theorem fcn_116_0 : fcn 116 0 = 117 := rfl
theorem fcn_116_1 : fcn 116 1 = 118 := rfl
theorem fcn_116_2 : fcn 116 2 = 119 := rfl
theorem fcn_116_3 : fcn 116 3 = 120 := rfl
theorem fcn_116_5 : fcn 116 5 = 121 := rfl
theorem fcn_116_6 : fcn 116 6 = 122 := rfl
theorem fcn_116_7 : fcn 116 7 = 123 := rfl
theorem fcn_116_8 : fcn 116 8 = 124 := rfl
theorem fcn_116_9 : fcn 116 9 = 125 := rfl
theorem fcn_126_0 : fcn 126 0 = 127 := rfl
theorem fcn_126_1 : fcn 126 1 = 128 := rfl
theorem fcn_126_2 : fcn 126 2 = 129 := rfl
theorem fcn_126_3 : fcn 126 3 = 130 := rfl
theorem fcn_126_5 : fcn 126 5 = 131 := rfl
theorem fcn_132_0 : fcn 132 0 = 116 := rfl
theorem fcn_132_1 : fcn 132 1 = 126 := rfl
theorem fcn_133_0 : fcn 133 0 = 112 := rfl
theorem fcn_133_1 : fcn 133 1 = 116 := rfl
theorem fcn_133_2 : fcn 133 2 = 126 := rfl
theorem fcn_133_7 : fcn 133 7 = 134 := rfl
theorem fcn_135_0 : fcn 135 0 = 116 := rfl
theorem fcn_135_1 : fcn 135 1 = 126 := rfl
theorem fcn_135_2 : fcn 135 2 = 132 := rfl
theorem fcn_135_3 : fcn 135 3 = 136 := rfl
theorem fcn_135_4 : fcn 135 4 = 137 := rfl
theorem fcn_138_0 : fcn 138 0 = 126 := rfl
theorem fcn_138_1 : fcn 138 1 = 132 := rfl
theorem fcn_139_0 : fcn 139 0 = 126 := rfl
theorem fcn_139_1 : fcn 139 1 = 132 := rfl
theorem fcn_139_2 : fcn 139 2 = 140 := rfl
theorem fcn_139_3 : fcn 139 3 = 141 := rfl
theorem fcn_139_4 : fcn 139 4 = 142 := rfl
theorem fcn_139_5 : fcn 139 5 = 146 := rfl
theorem fcn_139_6 : fcn 139 6 = 150 := rfl
theorem fcn_139_7 : fcn 139 7 = 151 := rfl
theorem fcn_139_8 : fcn 139 8 = 152 := rfl
theorem rcn_142_0 : rcn 142 0 = 143 := rfl
theorem rcn_142_1 : rcn 142 1 = 144 := rfl
theorem rcn_142_2 : rcn 142 2 = 145 := rfl
theorem rcn_146_0 : rcn 146 0 = 147 := rfl
theorem rcn_146_1 : rcn 146 1 = 148 := rfl
theorem rcn_146_2 : rcn 146 2 = 149 := rfl
theorem x1_0 : Ze d 1 0 [aI z, l1, l2] st s = Ze d 1 1 [aI z, l1, l2] (aI z :: st) s := Ze_n (i := (.iload_n 0)) (len := 1) (by decide +kernel) rfl
theorem x1_1 : Ze d 1 1 [l0, aI z, l2] st s = Ze d 1 2 [l0, aI z, l2] (aI z :: st) s := Ze_n (i := (.iload_n 1)) (len := 1) (by decide +kernel) rfl
theorem x1_2 : Ze d 1 2 [l0, l1, l2] (aI b :: aI a :: st) s = if a < b then Ze d 1 14 [l0, l1, l2] st s else Ze d 1 5 [l0, l1, l2] st s := Ze_b (i := (.if_icmp .lt 12)) (len := 3) (by decide +kernel) rfl
theorem x1_5 : Ze d 1 5 [aI z, l1, l2] st s = Ze d 1 6 [aI z, l1, l2] (aI z :: st) s := Ze_n (i := (.iload_n 0)) (len := 1) (by decide +kernel) rfl
theorem x1_6 : Ze d 1 6 [l0, l1, aI z] st s = Ze d 1 7 [l0, l1, aI z] (aI z :: st) s := Ze_n (i := (.iload_n 2)) (len := 1) (by decide +kernel) rfl
theorem x1_7 : Ze d 1 7 [l0, l1, l2] (aI b :: aI a :: st) s = if b < a then Ze d 1 14 [l0, l1, l2] st s else Ze d 1 10 [l0, l1, l2] st s := Ze_b (i := (.if_icmp .gt 7)) (len := 3) (by decide +kernel) rfl
theorem x1_10 : Ze d 1 10 [l0, l1, l2] st s = Ze d 1 11 [l0, l1, l2] (aI 1 :: st) s := Ze_n (i := (.iconst 1)) (len := 1) (by decide +kernel) rfl
theorem x1_11 : Ze d 1 11 [l0, l1, l2] st s = Ze d 1 15 [l0, l1, l2] st s := Ze_n (i := (.goto 4)) (len := 3) (by decide +kernel) rfl
theorem x1_14 : Ze d 1 14 [l0, l1, l2] st s = Ze d 1 15 [l0, l1, l2] (aI 0 :: st) s := Ze_n (i := (.iconst 0)) (len := 1) (by decide +kernel) rfl
theorem x1_15 (h : z = 0 ∨ z = 1) : Ze d 1 15 [l0, l1, l2] [aI z] s = rI z s := Ze_i2 (by decide +kernel) rfl h
theorem en1 : Zc (d + 1) 1 [aI a0, aI a1, aI a2] s = Ze d 1 0 [aI a0, aI a1, aI a2] [] s := rfl
theorem x11_0 : Ze d 11 0 [aR r, l1] st s = Ze d 11 1 [aR r, l1] (aR r :: st) s := Ze_n (i := (.aload_n 0)) (len := 1) (by decide +kernel) rfl
theorem x11_1 (h : obC r = 0) (h6 : st.length ≤ 4) : Ze d 11 1 [l0, l1] (aR r :: st) s = zcI (Zc d 7 [aR r] s) d 11 4 [l0, l1] st := Ze_cvI (idx := 204) (len := 3) (as := []) (by decide +kernel) rfl (by decide +kernel) rfl h h6
theorem x11_4 : Ze d 11 4 [l0, l1] (aI z :: st) s = Ze d 11 5 [l0, aI z] st s := Ze_n (i := (.istore_n 1)) (len := 1) (by decide +kernel) rfl
theorem x11_5 : Ze d 11 5 [l0, aI z] st s = Ze d 11 6 [l0, aI z] (aI z :: st) s := Ze_n (i := (.iload_n 1)) (len := 1) (by decide +kernel) rfl
theorem x11_6 (h6 : st.length ≤ 4) : Ze d 11 6 [l0, l1] (aI a0 :: st) s = zcI (Zc d 10 [aI a0] s) d 11 9 [l0, l1] st := Ze_csI (idx := 212) (len := 3) (as := [aI a0]) (by decide +kernel) rfl rfl (by decide +kernel) rfl h6
theorem x11_9 : Ze d 11 9 [l0, l1] (aI a :: st) s = if a = 0 then Ze d 11 25 [l0, l1] st s else Ze d 11 12 [l0, l1] st s := Ze_b (i := (.ifCond .eq 16)) (len := 3) (by decide +kernel) rfl
theorem x11_12 : Ze d 11 12 [aR r, l1] st s = Ze d 11 13 [aR r, l1] (aR r :: st) s := Ze_n (i := (.aload_n 0)) (len := 1) (by decide +kernel) rfl
theorem x11_13 : Ze d 11 13 [l0, l1] (aR r :: st) s = Ze d 11 14 [l0, l1] (aR r :: aR r :: st) s := Ze_n (i := .dup) (len := 1) (by decide +kernel) rfl
theorem x11_13i : Ze d 11 13 [l0, l1] (aI a :: st) s = Ze d 11 14 [l0, l1] (aI a :: aI a :: st) s := Ze_n (i := .dup) (len := 1) (by decide +kernel) rfl
theorem x11_14 (h : obC r = 0) : Ze d 11 14 [l0, l1] (aR r :: st) s = Ze d 11 17 [l0, l1] (aI (s r 2) :: st) s := Ze_gf (len := 3) (idx := 198) (by decide +kernel) rfl h rfl
theorem x11_17 : Ze d 11 17 [l0, l1] st s = Ze d 11 18 [l0, l1] (aI 1 :: st) s := Ze_n (i := (.iconst 1)) (len := 1) (by decide +kernel) rfl
theorem x11_18 : Ze d 11 18 [l0, l1] (aI b :: aI a :: st) s = Ze d 11 19 [l0, l1] (aI (wrap (a + b)) :: st) s := Ze_n (i := .iadd) (len := 1) (by decide +kernel) rfl
theorem x11_19 (h : obC r = 0) : Ze d 11 19 [l0, l1] (aI z :: aR r :: st) s = Ze d 11 22 [l0, l1] st (mu s r 2 z) := Ze_n (i := .putfield 198) (len := 3) (by decide +kernel) (if_pos h)
theorem x11_22 : Ze d 11 22 [l0, l1] st s = Ze d 11 33 [l0, l1] st s := Ze_n (i := (.goto 11)) (len := 3) (by decide +kernel) rfl
theorem x11_25 : Ze d 11 25 [aR r, l1] st s = Ze d 11 26 [aR r, l1] (aR r :: st) s := Ze_n (i := (.aload_n 0)) (len := 1) (by decide +kernel) rfl
theorem x11_26 : Ze d 11 26 [aR r, l1] st s = Ze d 11 27 [aR r, l1] (aR r :: st) s := Ze_n (i := (.aload_n 0)) (len := 1) (by decide +kernel) rfl
theorem x11_27 (h : obC r = 0) : Ze d 11 27 [l0, l1] (aR r :: st) s = Ze d 11 30 [l0, l1] (aI (s r 2) :: st) s := Ze_gf (len := 3) (idx := 198) (by decide +kernel) rfl h rfl
theorem x11_30 (h : obC r = 0) (h6 : st.length ≤ 4) : Ze d 11 30 [l0, l1] (aI a1 :: aR r :: st) s = zcV (Zc d 5 [aR r, aI a1] s) d 11 33 [l0, l1] st := Ze_cvV (idx := 208) (len := 3) (as := [aI a1]) (by decide +kernel) rfl (by decide +kernel) rfl h h6
theorem x11_33 : Ze d 11 33 [l0, aI z] st s = Ze d 11 34 [l0, aI z] (aI z :: st) s := Ze_n (i := (.iload_n 1)) (len := 1) (by decide +kernel) rfl
theorem x11_34 : Ze d 11 34 [l0, l1] st s = Ze d 11 36 [l0, l1] (aI 97 :: st) s := Ze_n (i := (.bipush 97)) (len := 2) (by decide +kernel) rfl
theorem x11_36 : Ze d 11 36 [l0, l1] (aI b :: aI a :: st) s = Ze d 11 37 [l0, l1] (aI (wrap (a - b)) :: st) s := Ze_n (i := .isub) (len := 1) (by decide +kernel) rfl
theorem x11_37 : Ze d 11 37 [l0, l1] [aI z] s = rI z s := Ze_i1 (by decide +kernel) rfl
theorem en11 : Zc (d + 1) 11 [aR r] s = Ze d 11 0 [aR r, aU] [] s := rfl
theorem x7_0 : Ze d 7 0 [aR r] st s = Ze d 7 1 [aR r] (aR r :: st) s := Ze_n (i := (.aload_n 0)) (len := 1) (by decide +kernel) rfl
theorem x7_1 (h : obC r = 0) : Ze d 7 1 [l0] (aR r :: st) s = Ze d 7 4 [l0] (aI (s r 2) :: st) s := Ze_gf (len := 3) (idx := 198) (by decide +kernel) rfl h rfl
theorem x7_4 : Ze d 7 4 [aR r] st s = Ze d 7 5 [aR r] (aR r :: st) s := Ze_n (i := (.aload_n 0)) (len := 1) (by decide +kernel) rfl
theorem x7_5 (h : obC r = 0) : Ze d 7 5 [l0] (aR r :: st) s = Ze d 7 8 [l0] (aI (s r 1) :: st) s := Ze_gf (len := 3) (idx := 191) (by decide +kernel) rfl h rfl
theorem x7_8 : Ze d 7 8 [l0] (aI b :: aI a :: st) s = if a < b then Ze d 7 11 [l0] st s else Ze d 7 38 [l0] st s := Ze_b (i := (.if_icmp .ge 30)) (len := 3) (by decide +kernel) rfl
theorem x7_11 : Ze d 7 11 [aR r] st s = Ze d 7 12 [aR r] (aR r :: st) s := Ze_n (i := (.aload_n 0)) (len := 1) (by decide +kernel) rfl
theorem x7_12 (h : obC r = 0) : Ze d 7 12 [l0] (aR r :: st) s = Ze d 7 15 [l0] (aR (fcn r 0) :: st) s := Ze_gf (len := 3) (idx := 7) (by decide +kernel) rfl h rfl
theorem x7_15 : Ze d 7 15 [aR r] st s = Ze d 7 16 [aR r] (aR r :: st) s := Ze_n (i := (.aload_n 0)) (len := 1) (by decide +kernel) rfl
theorem x7_16 (h : obC r = 0) : Ze d 7 16 [l0] (aR r :: st) s = Ze d 7 19 [l0] (aI (s r 2) :: st) s := Ze_gf (len := 3) (idx := 198) (by decide +kernel) rfl h rfl
theorem x7_19 (h0 : 0 ≤ i) (h1 : i < aN1 r) : Ze d 7 19 [l0] (aI i :: aR r :: st) s = Ze d 7 20 [l0] (aI (s r i.toNat) :: st) s := Ze_n (i := .iaload) (len := 1) (by decide +kernel) (if_pos ⟨h0, h1⟩)
theorem x7_20 : Ze d 7 20 [l0] st s = Ze d 7 22 [l0] (aI 32 :: st) s := Ze_n (i := (.bipush 32)) (len := 2) (by decide +kernel) rfl
theorem x7_22 : Ze d 7 22 [l0] (aI b :: aI a :: st) s = if a = b then Ze d 7 25 [l0] st s else Ze d 7 38 [l0] st s := Ze_b (i := (.if_icmp .ne 16)) (len := 3) (by decide +kernel) rfl
theorem x7_25 : Ze d 7 25 [aR r] st s = Ze d 7 26 [aR r] (aR r :: st) s := Ze_n (i := (.aload_n 0)) (len := 1) (by decide +kernel) rfl
theorem x7_26 : Ze d 7 26 [l0] (aR r :: st) s = Ze d 7 27 [l0] (aR r :: aR r :: st) s := Ze_n (i := .dup) (len := 1) (by decide +kernel) rfl
theorem x7_26i : Ze d 7 26 [l0] (aI a :: st) s = Ze d 7 27 [l0] (aI a :: aI a :: st) s := Ze_n (i := .dup) (len := 1) (by decide +kernel) rfl
theorem x7_27 (h : obC r = 0) : Ze d 7 27 [l0] (aR r :: st) s = Ze d 7 30 [l0] (aI (s r 2) :: st) s := Ze_gf (len := 3) (idx := 198) (by decide +kernel) rfl h rfl
theorem x7_30 : Ze d 7 30 [l0] st s = Ze d 7 31 [l0] (aI 1 :: st) s := Ze_n (i := (.iconst 1)) (len := 1) (by decide +kernel) rfl
theorem x7_31 : Ze d 7 31 [l0] (aI b :: aI a :: st) s = Ze d 7 32 [l0] (aI (wrap (a + b)) :: st) s := Ze_n (i := .iadd) (len := 1) (by decide +kernel) rfl
theorem x7_32 (h : obC r = 0) : Ze d 7 32 [l0] (aI z :: aR r :: st) s = Ze d 7 35 [l0] st (mu s r 2 z) := Ze_n (i := .putfield 198) (len := 3) (by decide +kernel) (if_pos h)
theorem x7_35 : Ze d 7 35 [l0] st s = Ze d 7 0 [l0] st s := Ze_n (i := (.goto (-35))) (len := 3) (by decide +kernel) rfl
theorem x7_38 : Ze d 7 38 [aR r] st s = Ze d 7 39 [aR r] (aR r :: st) s := Ze_n (i := (.aload_n 0)) (len := 1) (by decide +kernel) rfl
theorem x7_39 : Ze d 7 39 [aR r] st s = Ze d 7 40 [aR r] (aR r :: st) s := Ze_n (i := (.aload_n 0)) (len := 1) (by decide +kernel) rfl
theorem x7_40 (h : obC r = 0) : Ze d 7 40 [l0] (aR r :: st) s = Ze d 7 43 [l0] (aI (s r 2) :: st) s := Ze_gf (len := 3) (idx := 198) (by decide +kernel) rfl h rfl
theorem x7_43 (h : obC r = 0) (h6 : st.length ≤ 4) : Ze d 7 43 [l0] (aI a1 :: aR r :: st) s = zcI (Zc d 6 [aR r, aI a1] s) d 7 46 [l0] st := Ze_cvI (idx := 201) (len := 3) (as := [aI a1]) (by decide +kernel) rfl (by decide +kernel) rfl h h6
theorem x7_46 : Ze d 7 46 [l0] [aI z] s = rI z s := Ze_i1 (by decide +kernel) rfl
theorem en7 : Zc (d + 1) 7 [aR r] s = Ze d 7 0 [aR r] [] s := rfl
theorem x6_0 : Ze d 6 0 [l0, aI z] st s = Ze d 6 1 [l0, aI z] (aI z :: st) s := Ze_n (i := (.iload_n 1)) (len := 1) (by decide +kernel) rfl
theorem x6_1 : Ze d 6 1 [aR r, l1] st s = Ze d 6 2 [aR r, l1] (aR r :: st) s := Ze_n (i := (.aload_n 0)) (len := 1) (by decide +kernel) rfl
theorem x6_2 (h : obC r = 0) : Ze d 6 2 [l0, l1] (aR r :: st) s = Ze d 6 5 [l0, l1] (aI (s r 1) :: st) s := Ze_gf (len := 3) (idx := 191) (by decide +kernel) rfl h rfl
theorem x6_5 : Ze d 6 5 [l0, l1] (aI b :: aI a :: st) s = if a < b then Ze d 6 8 [l0, l1] st s else Ze d 6 17 [l0, l1] st s := Ze_b (i := (.if_icmp .ge 12)) (len := 3) (by decide +kernel) rfl
theorem x6_8 : Ze d 6 8 [aR r, l1] st s = Ze d 6 9 [aR r, l1] (aR r :: st) s := Ze_n (i := (.aload_n 0)) (len := 1) (by decide +kernel) rfl
theorem x6_9 (h : obC r = 0) : Ze d 6 9 [l0, l1] (aR r :: st) s = Ze d 6 12 [l0, l1] (aR (fcn r 0) :: st) s := Ze_gf (len := 3) (idx := 7) (by decide +kernel) rfl h rfl
theorem x6_12 : Ze d 6 12 [l0, aI z] st s = Ze d 6 13 [l0, aI z] (aI z :: st) s := Ze_n (i := (.iload_n 1)) (len := 1) (by decide +kernel) rfl
theorem x6_13 (h0 : 0 ≤ i) (h1 : i < aN1 r) : Ze d 6 13 [l0, l1] (aI i :: aR r :: st) s = Ze d 6 14 [l0, l1] (aI (s r i.toNat) :: st) s := Ze_n (i := .iaload) (len := 1) (by decide +kernel) (if_pos ⟨h0, h1⟩)
theorem x6_14 : Ze d 6 14 [l0, l1] st s = Ze d 6 18 [l0, l1] st s := Ze_n (i := (.goto 4)) (len := 3) (by decide +kernel) rfl
theorem x6_17 : Ze d 6 17 [l0, l1] st s = Ze d 6 18 [l0, l1] (aI (-1) :: st) s := Ze_n (i := (.iconst (-1))) (len := 1) (by decide +kernel) rfl
theorem x6_18 : Ze d 6 18 [l0, l1] [aI z] s = rI z s := Ze_i1 (by decide +kernel) rfl
theorem en6 : Zc (d + 1) 6 [aR r, aI a1] s = Ze d 6 0 [aR r, aI a1] [] s := rfl
theorem x10_0 : Ze d 10 0 [aI z] st s = Ze d 10 1 [aI z] (aI z :: st) s := Ze_n (i := (.iload_n 0)) (len := 1) (by decide +kernel) rfl
theorem x10_1 : Ze d 10 1 [l0] st s = Ze d 10 3 [l0] (aI 97 :: st) s := Ze_n (i := (.bipush 97)) (len := 2) (by decide +kernel) rfl
theorem x10_3 : Ze d 10 3 [l0] st s = Ze d 10 5 [l0] (aI 122 :: st) s := Ze_n (i := (.bipush 122)) (len := 2) (by decide +kernel) rfl
theorem x10_5 (h6 : st.length ≤ 4) : Ze d 10 5 [l0] (aI a2 :: aI a1 :: aI a0 :: st) s = zcI (Zc d 1 [aI a0, aI a1, aI a2] s) d 10 8 [l0] st := Ze_csI (idx := 183) (len := 3) (as := [aI a0, aI a1, aI a2]) (by decide +kernel) rfl rfl (by decide +kernel) rfl h6
theorem x10_8 (h : z = 0 ∨ z = 1) : Ze d 10 8 [l0] [aI z] s = rI z s := Ze_i2 (by decide +kernel) rfl h
theorem en10 : Zc (d + 1) 10 [aI a0] s = Ze d 10 0 [aI a0] [] s := rfl
theorem x5_0 : Ze d 5 0 [aR r, l1] st s = Ze d 5 1 [aR r, l1] (aR r :: st) s := Ze_n (i := (.aload_n 0)) (len := 1) (by decide +kernel) rfl
theorem x5_1 (h : obC r = 0) : Ze d 5 1 [l0, l1] (aR r :: st) s = Ze d 5 4 [l0, l1] (aI (s r 5) :: st) s := Ze_gf (len := 3) (idx := 194) (by decide +kernel) rfl h rfl
theorem x5_4 : Ze d 5 4 [l0, l1] (aI a :: st) s = if a = 0 then Ze d 5 7 [l0, l1] st s else Ze d 5 12 [l0, l1] st s := Ze_b (i := (.ifCond .ne 8)) (len := 3) (by decide +kernel) rfl
theorem x5_7 : Ze d 5 7 [aR r, l1] st s = Ze d 5 8 [aR r, l1] (aR r :: st) s := Ze_n (i := (.aload_n 0)) (len := 1) (by decide +kernel) rfl
theorem x5_8 : Ze d 5 8 [l0, aI z] st s = Ze d 5 9 [l0, aI z] (aI z :: st) s := Ze_n (i := (.iload_n 1)) (len := 1) (by decide +kernel) rfl
theorem x5_9 (h : obC r = 0) : Ze d 5 9 [l0, l1] (aI z :: aR r :: st) s = Ze d 5 12 [l0, l1] st (mu s r 3 z) := Ze_n (i := .putfield 13) (len := 3) (by decide +kernel) (if_pos h)
theorem x5_12 : Ze d 5 12 [aR r, l1] st s = Ze d 5 13 [aR r, l1] (aR r :: st) s := Ze_n (i := (.aload_n 0)) (len := 1) (by decide +kernel) rfl
theorem x5_13 : Ze d 5 13 [l0, l1] st s = Ze d 5 14 [l0, l1] (aI 1 :: st) s := Ze_n (i := (.iconst 1)) (len := 1) (by decide +kernel) rfl
theorem x5_14 (h : obC r = 0) (h2 : z = 0 ∨ z = 1) : Ze d 5 14 [l0, l1] (aI z :: aR r :: st) s = Ze d 5 17 [l0, l1] st (mu s r 5 z) := Ze_n (i := .putfield 194) (len := 3) (by decide +kernel) (if_pos ⟨h, h2⟩)
theorem x5_17 : Ze d 5 17 [l0, l1] [] s = rV s := Ze_v (by decide +kernel) rfl
theorem en5 : Zc (d + 1) 5 [aR r, aI a1] s = Ze d 5 0 [aR r, aI a1] [] s := rfl
theorem x50_0 : Ze d 50 0 [l0, l1, l2, l3, l4, l5] st s = Ze d 50 1 [l0, l1, l2, l3, l4, l5] (aI 0 :: st) s := Ze_n (i := (.iconst 0)) (len := 1) (by decide +kernel) rfl
theorem x50_1 : Ze d 50 1 [l0, l1, l2, l3, l4, l5] (aI z :: st) s = Ze d 50 2 [l0, l1, aI z, l3, l4, l5] st s := Ze_n (i := (.istore_n 2)) (len := 1) (by decide +kernel) rfl
theorem x50_2 : Ze d 50 2 [aR r, l1, l2, l3, l4, l5] st s = Ze d 50 3 [aR r, l1, l2, l3, l4, l5] (aR r :: st) s := Ze_n (i := (.aload_n 0)) (len := 1) (by decide +kernel) rfl
theorem x50_3 (h : obC r = 0) : Ze d 50 3 [l0, l1, l2, l3, l4, l5] (aR r :: st) s = Ze d 50 6 [l0, l1, l2, l3, l4, l5] (aR (fcn r 60) :: st) s := Ze_gf (len := 3) (idx := 146) (by decide +kernel) rfl h rfl
theorem x50_6 : Ze d 50 6 [l0, aI z, l2, l3, l4, l5] st s = Ze d 50 7 [l0, aI z, l2, l3, l4, l5] (aI z :: st) s := Ze_n (i := (.iload_n 1)) (len := 1) (by decide +kernel) rfl
theorem x50_7 (h0 : 0 ≤ i) (h1 : i < aN1 r) : Ze d 50 7 [l0, l1, l2, l3, l4, l5] (aI i :: aR r :: st) s = Ze d 50 8 [l0, l1, l2, l3, l4, l5] (aI (s r i.toNat) :: st) s := Ze_n (i := .iaload) (len := 1) (by decide +kernel) (if_pos ⟨h0, h1⟩)
theorem x50_8 : Ze d 50 8 [l0, l1, l2, l3, l4, l5] (aI z :: st) s = Ze d 50 9 [l0, l1, l2, aI z, l4, l5] st s := Ze_n (i := (.istore_n 3)) (len := 1) (by decide +kernel) rfl
theorem x50_9 : Ze d 50 9 [l0, l1, l2, l3, l4, l5] st s = Ze d 50 10 [l0, l1, l2, l3, l4, l5] (aI 1 :: st) s := Ze_n (i := (.iconst 1)) (len := 1) (by decide +kernel) rfl
theorem x50_10 : Ze d 50 10 [l0, l1, l2, l3, l4, l5] (aI z :: st) s = Ze d 50 12 [l0, l1, l2, l3, aI z, l5] st s := Ze_n (i := (.istore 4)) (len := 2) (by decide +kernel) rfl
theorem x50_12 : Ze d 50 12 [l0, l1, l2, l3, l4, l5] st s = Ze d 50 15 [l0, l1, l2, l3, l4, l5] (aI 1100 :: st) s := Ze_n (i := (.sipush 1100)) (len := 3) (by decide +kernel) rfl
theorem x50_15 : Ze d 50 15 [l0, l1, l2, l3, l4, l5] (aI z :: st) s = Ze d 50 17 [l0, l1, l2, l3, l4, aI z] st s := Ze_n (i := (.istore 5)) (len := 2) (by decide +kernel) rfl
theorem x50_17 : Ze d 50 17 [l0, l1, l2, l3, l4, aI z] st s = Ze d 50 19 [l0, l1, l2, l3, l4, aI z] (aI z :: st) s := Ze_n (i := (.iload 5)) (len := 2) (by decide +kernel) rfl
theorem x50_19 : Ze d 50 19 [l0, l1, l2, l3, l4, l5] st s = Ze d 50 22 [l0, l1, l2, l3, l4, l5] (aI 1100 :: st) s := Ze_n (i := (.sipush 1100)) (len := 3) (by decide +kernel) rfl
theorem x50_22 : Ze d 50 22 [aR r, l1, l2, l3, l4, l5] st s = Ze d 50 23 [aR r, l1, l2, l3, l4, l5] (aR r :: st) s := Ze_n (i := (.aload_n 0)) (len := 1) (by decide +kernel) rfl
theorem x50_23 (h : obC r = 0) : Ze d 50 23 [l0, l1, l2, l3, l4, l5] (aR r :: st) s = Ze d 50 26 [l0, l1, l2, l3, l4, l5] (aI (s r 72) :: st) s := Ze_gf (len := 3) (idx := 350) (by decide +kernel) rfl h rfl
theorem x50_26 : Ze d 50 26 [l0, l1, l2, l3, l4, l5] (aI b :: aI a :: st) s = Ze d 50 27 [l0, l1, l2, l3, l4, l5] (aI (wrap (a + b)) :: st) s := Ze_n (i := .iadd) (len := 1) (by decide +kernel) rfl
theorem x50_27 : Ze d 50 27 [l0, l1, l2, l3, l4, l5] (aI b :: aI a :: st) s = if a < b then Ze d 50 30 [l0, l1, l2, l3, l4, l5] st s else Ze d 50 231 [l0, l1, l2, l3, l4, l5] st s := Ze_b (i := (.if_icmp .ge 204)) (len := 3) (by decide +kernel) rfl
theorem x50_30 : Ze d 50 30 [aR r, l1, l2, l3, l4, l5] st s = Ze d 50 31 [aR r, l1, l2, l3, l4, l5] (aR r :: st) s := Ze_n (i := (.aload_n 0)) (len := 1) (by decide +kernel) rfl
theorem x50_31 (h : obC r = 0) : Ze d 50 31 [l0, l1, l2, l3, l4, l5] (aR r :: st) s = Ze d 50 34 [l0, l1, l2, l3, l4, l5] (aR (fcn r 54) :: st) s := Ze_gf (len := 3) (idx := 134) (by decide +kernel) rfl h rfl
theorem x50_34 : Ze d 50 34 [l0, l1, l2, l3, l4, aI z] st s = Ze d 50 36 [l0, l1, l2, l3, l4, aI z] (aI z :: st) s := Ze_n (i := (.iload 5)) (len := 2) (by decide +kernel) rfl
theorem x50_36 (h0 : 0 ≤ i) (h1 : i < aN1 r) : Ze d 50 36 [l0, l1, l2, l3, l4, l5] (aI i :: aR r :: st) s = Ze d 50 37 [l0, l1, l2, l3, l4, l5] (aI (s r i.toNat) :: st) s := Ze_n (i := .iaload) (len := 1) (by decide +kernel) (if_pos ⟨h0, h1⟩)
theorem x50_37 : Ze d 50 37 [l0, l1, l2, l3, l4, l5] (aI a :: st) s = if a = 0 then Ze d 50 64 [l0, l1, l2, l3, l4, l5] st s else if a = 1 then Ze d 50 122 [l0, l1, l2, l3, l4, l5] st s else if a = 2 then Ze d 50 182 [l0, l1, l2, l3, l4, l5] st s else Ze d 50 214 [l0, l1, l2, l3, l4, l5] st s :=
  Ze_ts (dflt := 177) (lo := 0) (hi := 2) (offs := #[27, 85, 145]) (len := 27) (ks := [(0, 64), (1, 122), (2, 182)]) (df := 214) (by decide +kernel) (by decide +kernel) (by decide +kernel)
theorem x50_64 : Ze d 50 64 [l0, l1, l2, l3, aI z, l5] st s = Ze d 50 66 [l0, l1, l2, l3, aI z, l5] (aI z :: st) s := Ze_n (i := (.iload 4)) (len := 2) (by decide +kernel) rfl
theorem x50_66 : Ze d 50 66 [l0, l1, l2, l3, l4, l5] (aI a :: st) s = if a = 0 then Ze d 50 225 [l0, l1, l2, l3, l4, l5] st s else Ze d 50 69 [l0, l1, l2, l3, l4, l5] st s := Ze_b (i := (.ifCond .eq 159)) (len := 3) (by decide +kernel) rfl
theorem x50_69 : Ze d 50 69 [aR r, l1, l2, l3, l4, l5] st s = Ze d 50 70 [aR r, l1, l2, l3, l4, l5] (aR r :: st) s := Ze_n (i := (.aload_n 0)) (len := 1) (by decide +kernel) rfl
theorem x50_70 (h : obC r = 0) : Ze d 50 70 [l0, l1, l2, l3, l4, l5] (aR r :: st) s = Ze d 50 73 [l0, l1, l2, l3, l4, l5] (aR (fcn r 55) :: st) s := Ze_gf (len := 3) (idx := 137) (by decide +kernel) rfl h rfl
theorem x50_73 : Ze d 50 73 [l0, l1, l2, l3, l4, aI z] st s = Ze d 50 75 [l0, l1, l2, l3, l4, aI z] (aI z :: st) s := Ze_n (i := (.iload 5)) (len := 2) (by decide +kernel) rfl
theorem x50_75 (h0 : 0 ≤ i) (h1 : i < aN1 r) : Ze d 50 75 [l0, l1, l2, l3, l4, l5] (aI i :: aR r :: st) s = Ze d 50 76 [l0, l1, l2, l3, l4, l5] (aI (s r i.toNat) :: st) s := Ze_n (i := .iaload) (len := 1) (by decide +kernel) (if_pos ⟨h0, h1⟩)
theorem x50_76 : Ze d 50 76 [l0, aI z, l2, l3, l4, l5] st s = Ze d 50 77 [l0, aI z, l2, l3, l4, l5] (aI z :: st) s := Ze_n (i := (.iload_n 1)) (len := 1) (by decide +kernel) rfl
theorem x50_77 : Ze d 50 77 [l0, l1, l2, l3, l4, l5] (aI b :: aI a :: st) s = if a = b then Ze d 50 80 [l0, l1, l2, l3, l4, l5] st s else Ze d 50 225 [l0, l1, l2, l3, l4, l5] st s := Ze_b (i := (.if_icmp .ne 148)) (len := 3) (by decide +kernel) rfl
theorem x50_80 : Ze d 50 80 [aR r, l1, l2, l3, l4, l5] st s = Ze d 50 81 [aR r, l1, l2, l3, l4, l5] (aR r :: st) s := Ze_n (i := (.aload_n 0)) (len := 1) (by decide +kernel) rfl
theorem x50_81 (h : obC r = 0) : Ze d 50 81 [l0, l1, l2, l3, l4, l5] (aR r :: st) s = Ze d 50 84 [l0, l1, l2, l3, l4, l5] (aR (fcn r 56) :: st) s := Ze_gf (len := 3) (idx := 140) (by decide +kernel) rfl h rfl
theorem x50_84 : Ze d 50 84 [l0, l1, l2, l3, l4, aI z] st s = Ze d 50 86 [l0, l1, l2, l3, l4, aI z] (aI z :: st) s := Ze_n (i := (.iload 5)) (len := 2) (by decide +kernel) rfl
theorem x50_86 (h0 : 0 ≤ i) (h1 : i < aN1 r) : Ze d 50 86 [l0, l1, l2, l3, l4, l5] (aI i :: aR r :: st) s = Ze d 50 87 [l0, l1, l2, l3, l4, l5] (aI (s r i.toNat) :: st) s := Ze_n (i := .iaload) (len := 1) (by decide +kernel) (if_pos ⟨h0, h1⟩)
theorem x50_87 : Ze d 50 87 [l0, l1, l2, l3, l4, l5] (aI a :: st) s = if a < 0 then Ze d 50 90 [l0, l1, l2, l3, l4, l5] st s else Ze d 50 107 [l0, l1, l2, l3, l4, l5] st s := Ze_b (i := (.ifCond .ge 20)) (len := 3) (by decide +kernel) rfl
theorem x50_90 : Ze d 50 90 [aR r, l1, l2, l3, l4, l5] st s = Ze d 50 91 [aR r, l1, l2, l3, l4, l5] (aR r :: st) s := Ze_n (i := (.aload_n 0)) (len := 1) (by decide +kernel) rfl
theorem x50_91 (h : obC r = 0) : Ze d 50 91 [l0, l1, l2, l3, l4, l5] (aR r :: st) s = Ze d 50 94 [l0, l1, l2, l3, l4, l5] (aR (fcn r 59) :: st) s := Ze_gf (len := 3) (idx := 143) (by decide +kernel) rfl h rfl
theorem x50_94 : Ze d 50 94 [l0, l1, l2, l3, l4, l5] st s = Ze d 50 95 [l0, l1, l2, l3, l4, l5] (aI (-1) :: st) s := Ze_n (i := (.iconst (-1))) (len := 1) (by decide +kernel) rfl
theorem x50_95 : Ze d 50 95 [aR r, l1, l2, l3, l4, l5] st s = Ze d 50 96 [aR r, l1, l2, l3, l4, l5] (aR r :: st) s := Ze_n (i := (.aload_n 0)) (len := 1) (by decide +kernel) rfl
theorem x50_96 (h : obC r = 0) : Ze d 50 96 [l0, l1, l2, l3, l4, l5] (aR r :: st) s = Ze d 50 99 [l0, l1, l2, l3, l4, l5] (aR (fcn r 56) :: st) s := Ze_gf (len := 3) (idx := 140) (by decide +kernel) rfl h rfl
theorem x50_99 : Ze d 50 99 [l0, l1, l2, l3, l4, aI z] st s = Ze d 50 101 [l0, l1, l2, l3, l4, aI z] (aI z :: st) s := Ze_n (i := (.iload 5)) (len := 2) (by decide +kernel) rfl
theorem x50_101 (h0 : 0 ≤ i) (h1 : i < aN1 r) : Ze d 50 101 [l0, l1, l2, l3, l4, l5] (aI i :: aR r :: st) s = Ze d 50 102 [l0, l1, l2, l3, l4, l5] (aI (s r i.toNat) :: st) s := Ze_n (i := .iaload) (len := 1) (by decide +kernel) (if_pos ⟨h0, h1⟩)
theorem x50_102 : Ze d 50 102 [l0, l1, l2, l3, l4, l5] (aI b :: aI a :: st) s = Ze d 50 103 [l0, l1, l2, l3, l4, l5] (aI (wrap (a - b)) :: st) s := Ze_n (i := .isub) (len := 1) (by decide +kernel) rfl
theorem x50_103 (h0 : 0 ≤ i) (h1 : i < aN1 r) : Ze d 50 103 [l0, l1, l2, l3, l4, l5] (aI i :: aR r :: st) s = Ze d 50 104 [l0, l1, l2, l3, l4, l5] (aI (s r i.toNat) :: st) s := Ze_n (i := .iaload) (len := 1) (by decide +kernel) (if_pos ⟨h0, h1⟩)
theorem x50_104 : Ze d 50 104 [l0, l1, l2, l3, l4, l5] st s = Ze d 50 118 [l0, l1, l2, l3, l4, l5] st s := Ze_n (i := (.goto 14)) (len := 3) (by decide +kernel) rfl
theorem x50_107 : Ze d 50 107 [aR r, l1, l2, l3, l4, l5] st s = Ze d 50 108 [aR r, l1, l2, l3, l4, l5] (aR r :: st) s := Ze_n (i := (.aload_n 0)) (len := 1) (by decide +kernel) rfl
theorem x50_108 : Ze d 50 108 [aR r, l1, l2, l3, l4, l5] st s = Ze d 50 109 [aR r, l1, l2, l3, l4, l5] (aR r :: st) s := Ze_n (i := (.aload_n 0)) (len := 1) (by decide +kernel) rfl
theorem x50_109 (h : obC r = 0) : Ze d 50 109 [l0, l1, l2, l3, l4, l5] (aR r :: st) s = Ze d 50 112 [l0, l1, l2, l3, l4, l5] (aR (fcn r 56) :: st) s := Ze_gf (len := 3) (idx := 140) (by decide +kernel) rfl h rfl
theorem x50_112 : Ze d 50 112 [l0, l1, l2, l3, l4, aI z] st s = Ze d 50 114 [l0, l1, l2, l3, l4, aI z] (aI z :: st) s := Ze_n (i := (.iload 5)) (len := 2) (by decide +kernel) rfl
theorem x50_114 (h0 : 0 ≤ i) (h1 : i < aN1 r) : Ze d 50 114 [l0, l1, l2, l3, l4, l5] (aI i :: aR r :: st) s = Ze d 50 115 [l0, l1, l2, l3, l4, l5] (aI (s r i.toNat) :: st) s := Ze_n (i := .iaload) (len := 1) (by decide +kernel) (if_pos ⟨h0, h1⟩)
theorem x50_115 (h : obC r = 0) (h6 : st.length ≤ 4) : Ze d 50 115 [l0, l1, l2, l3, l4, l5] (aI a1 :: aR r :: st) s = zcI (Zc d 49 [aR r, aI a1] s) d 50 118 [l0, l1, l2, l3, l4, l5] st := Ze_cvI (idx := 389) (len := 3) (as := [aI a1]) (by decide +kernel) rfl (by decide +kernel) rfl h h6
theorem x50_118 : Ze d 50 118 [l0, l1, l2, l3, l4, l5] (aI z :: st) s = Ze d 50 119 [l0, l1, l2, aI z, l4, l5] st s := Ze_n (i := (.istore_n 3)) (len := 1) (by decide +kernel) rfl
theorem x50_119 : Ze d 50 119 [l0, l1, l2, l3, l4, l5] st s = Ze d 50 225 [l0, l1, l2, l3, l4, l5] st s := Ze_n (i := (.goto 106)) (len := 3) (by decide +kernel) rfl
theorem x50_122 : Ze d 50 122 [aR r, l1, l2, l3, l4, l5] st s = Ze d 50 123 [aR r, l1, l2, l3, l4, l5] (aR r :: st) s := Ze_n (i := (.aload_n 0)) (len := 1) (by decide +kernel) rfl
theorem x50_123 (h : obC r = 0) : Ze d 50 123 [l0, l1, l2, l3, l4, l5] (aR r :: st) s = Ze d 50 126 [l0, l1, l2, l3, l4, l5] (aR (fcn r 66) :: st) s := Ze_gf (len := 3) (idx := 165) (by decide +kernel) rfl h rfl
theorem x50_126 : Ze d 50 126 [l0, l1, aI z, l3, l4, l5] st s = Ze d 50 127 [l0, l1, aI z, l3, l4, l5] (aI z :: st) s := Ze_n (i := (.iload_n 2)) (len := 1) (by decide +kernel) rfl
theorem x50_127 : Ze d 50 127 [l0, l1, l2, l3, aI z, l5] st s = Ze d 50 129 [l0, l1, l2, l3, aI z, l5] (aI z :: st) s := Ze_n (i := (.iload 4)) (len := 2) (by decide +kernel) rfl
theorem x50_129 (h0 : 0 ≤ i) (h1 : i < aN2 r) (h2 : z = 0 ∨ z = 1) : Ze d 50 129 [l0, l1, l2, l3, l4, l5] (aI z :: aI i :: aR r :: st) s = Ze d 50 130 [l0, l1, l2, l3, l4, l5] st (mu s r i.toNat z) := Ze_n (i := .bastore) (len := 1) (by decide +kernel) (if_pos ⟨h0, h1, h2⟩)
theorem x50_130 : Ze d 50 130 [aR r, l1, l2, l3, l4, l5] st s = Ze d 50 131 [aR r, l1, l2, l3, l4, l5] (aR r :: st) s := Ze_n (i := (.aload_n 0)) (len := 1) (by decide +kernel) rfl
theorem x50_131 (h : obC r = 0) : Ze d 50 131 [l0, l1, l2, l3, l4, l5] (aR r :: st) s = Ze d 50 134 [l0, l1, l2, l3, l4, l5] (aR (fcn r 65) :: st) s := Ze_gf (len := 3) (idx := 162) (by decide +kernel) rfl h rfl
theorem x50_134 : Ze d 50 134 [l0, l1, aI z, l3, l4, l5] st s = Ze d 50 135 [l0, l1, aI z, l3, l4, l5] (aI z :: st) s := Ze_n (i := (.iload_n 2)) (len := 1) (by decide +kernel) rfl
theorem x50_135 : Ze d 50 135 [aR r, l1, l2, l3, l4, l5] st s = Ze d 50 136 [aR r, l1, l2, l3, l4, l5] (aR r :: st) s := Ze_n (i := (.aload_n 0)) (len := 1) (by decide +kernel) rfl
theorem x50_136 : Ze d 50 136 [aR r, l1, l2, l3, l4, l5] st s = Ze d 50 137 [aR r, l1, l2, l3, l4, l5] (aR r :: st) s := Ze_n (i := (.aload_n 0)) (len := 1) (by decide +kernel) rfl
theorem x50_137 (h : obC r = 0) : Ze d 50 137 [l0, l1, l2, l3, l4, l5] (aR r :: st) s = Ze d 50 140 [l0, l1, l2, l3, l4, l5] (aR (fcn r 56) :: st) s := Ze_gf (len := 3) (idx := 140) (by decide +kernel) rfl h rfl
theorem x50_140 : Ze d 50 140 [l0, l1, l2, l3, l4, aI z] st s = Ze d 50 142 [l0, l1, l2, l3, l4, aI z] (aI z :: st) s := Ze_n (i := (.iload 5)) (len := 2) (by decide +kernel) rfl
theorem x50_142 (h0 : 0 ≤ i) (h1 : i < aN1 r) : Ze d 50 142 [l0, l1, l2, l3, l4, l5] (aI i :: aR r :: st) s = Ze d 50 143 [l0, l1, l2, l3, l4, l5] (aI (s r i.toNat) :: st) s := Ze_n (i := .iaload) (len := 1) (by decide +kernel) (if_pos ⟨h0, h1⟩)
theorem x50_143 (h : obC r = 0) (h6 : st.length ≤ 4) : Ze d 50 143 [l0, l1, l2, l3, l4, l5] (aI a1 :: aR r :: st) s = zcI (Zc d 49 [aR r, aI a1] s) d 50 146 [l0, l1, l2, l3, l4, l5] st := Ze_cvI (idx := 389) (len := 3) (as := [aI a1]) (by decide +kernel) rfl (by decide +kernel) rfl h h6
theorem x50_146 : Ze d 50 146 [l0, l1, l2, l3, l4, l5] (aI a :: st) s = if a = 0 then Ze d 50 153 [l0, l1, l2, l3, l4, l5] st s else Ze d 50 149 [l0, l1, l2, l3, l4, l5] st s := Ze_b (i := (.ifCond .eq 7)) (len := 3) (by decide +kernel) rfl
theorem x50_149 : Ze d 50 149 [l0, l1, l2, l3, l4, l5] st s = Ze d 50 150 [l0, l1, l2, l3, l4, l5] (aI 1 :: st) s := Ze_n (i := (.iconst 1)) (len := 1) (by decide +kernel) rfl
theorem x50_150 : Ze d 50 150 [l0, l1, l2, l3, l4, l5] st s = Ze d 50 154 [l0, l1, l2, l3, l4, l5] st s := Ze_n (i := (.goto 4)) (len := 3) (by decide +kernel) rfl
theorem x50_153 : Ze d 50 153 [l0, l1, l2, l3, l4, l5] st s = Ze d 50 154 [l0, l1, l2, l3, l4, l5] (aI 0 :: st) s := Ze_n (i := (.iconst 0)) (len := 1) (by decide +kernel) rfl
theorem x50_154 (h0 : 0 ≤ i) (h1 : i < aN2 r) (h2 : z = 0 ∨ z = 1) : Ze d 50 154 [l0, l1, l2, l3, l4, l5] (aI z :: aI i :: aR r :: st) s = Ze d 50 155 [l0, l1, l2, l3, l4, l5] st (mu s r i.toNat z) := Ze_n (i := .bastore) (len := 1) (by decide +kernel) (if_pos ⟨h0, h1, h2⟩)
theorem x50_155 : Ze d 50 155 [l0, l1, l2, l3, aI z, l5] st s = Ze d 50 157 [l0, l1, l2, l3, aI z, l5] (aI z :: st) s := Ze_n (i := (.iload 4)) (len := 2) (by decide +kernel) rfl
theorem x50_157 : Ze d 50 157 [l0, l1, l2, l3, l4, l5] (aI a :: st) s = if a = 0 then Ze d 50 173 [l0, l1, l2, l3, l4, l5] st s else Ze d 50 160 [l0, l1, l2, l3, l4, l5] st s := Ze_b (i := (.ifCond .eq 16)) (len := 3) (by decide +kernel) rfl
theorem x50_160 : Ze d 50 160 [aR r, l1, l2, l3, l4, l5] st s = Ze d 50 161 [aR r, l1, l2, l3, l4, l5] (aR r :: st) s := Ze_n (i := (.aload_n 0)) (len := 1) (by decide +kernel) rfl
theorem x50_161 (h : obC r = 0) : Ze d 50 161 [l0, l1, l2, l3, l4, l5] (aR r :: st) s = Ze d 50 164 [l0, l1, l2, l3, l4, l5] (aR (fcn r 65) :: st) s := Ze_gf (len := 3) (idx := 162) (by decide +kernel) rfl h rfl
theorem x50_164 : Ze d 50 164 [l0, l1, aI z, l3, l4, l5] st s = Ze d 50 165 [l0, l1, aI z, l3, l4, l5] (aI z :: st) s := Ze_n (i := (.iload_n 2)) (len := 1) (by decide +kernel) rfl
theorem x50_165 (h0 : 0 ≤ i) (h1 : i < aN2 r) : Ze d 50 165 [l0, l1, l2, l3, l4, l5] (aI i :: aR r :: st) s = Ze d 50 166 [l0, l1, l2, l3, l4, l5] (aI (s r i.toNat) :: st) s := Ze_n (i := .baload) (len := 1) (by decide +kernel) (if_pos ⟨h0, h1⟩)
theorem x50_166 : Ze d 50 166 [l0, l1, l2, l3, l4, l5] (aI a :: st) s = if a = 0 then Ze d 50 173 [l0, l1, l2, l3, l4, l5] st s else Ze d 50 169 [l0, l1, l2, l3, l4, l5] st s := Ze_b (i := (.ifCond .eq 7)) (len := 3) (by decide +kernel) rfl
theorem x50_169 : Ze d 50 169 [l0, l1, l2, l3, l4, l5] st s = Ze d 50 170 [l0, l1, l2, l3, l4, l5] (aI 1 :: st) s := Ze_n (i := (.iconst 1)) (len := 1) (by decide +kernel) rfl
theorem x50_170 : Ze d 50 170 [l0, l1, l2, l3, l4, l5] st s = Ze d 50 174 [l0, l1, l2, l3, l4, l5] st s := Ze_n (i := (.goto 4)) (len := 3) (by decide +kernel) rfl
theorem x50_173 : Ze d 50 173 [l0, l1, l2, l3, l4, l5] st s = Ze d 50 174 [l0, l1, l2, l3, l4, l5] (aI 0 :: st) s := Ze_n (i := (.iconst 0)) (len := 1) (by decide +kernel) rfl
theorem x50_174 : Ze d 50 174 [l0, l1, l2, l3, l4, l5] (aI z :: st) s = Ze d 50 176 [l0, l1, l2, l3, aI z, l5] st s := Ze_n (i := (.istore 4)) (len := 2) (by decide +kernel) rfl
theorem x50_176 : Ze d 50 176 [l0, l1, aI z, l3, l4, l5] st s = Ze d 50 179 [l0, l1, aI (wrap (z + 1)), l3, l4, l5] st s := Ze_n (i := (.iinc 2 1)) (len := 3) (by decide +kernel) rfl
theorem x50_179 : Ze d 50 179 [l0, l1, l2, l3, l4, l5] st s = Ze d 50 225 [l0, l1, l2, l3, l4, l5] st s := Ze_n (i := (.goto 46)) (len := 3) (by decide +kernel) rfl
theorem x50_182 : Ze d 50 182 [aR r, l1, l2, l3, l4, l5] st s = Ze d 50 183 [aR r, l1, l2, l3, l4, l5] (aR r :: st) s := Ze_n (i := (.aload_n 0)) (len := 1) (by decide +kernel) rfl
theorem x50_183 (h : obC r = 0) : Ze d 50 183 [l0, l1, l2, l3, l4, l5] (aR r :: st) s = Ze d 50 186 [l0, l1, l2, l3, l4, l5] (aR (fcn r 66) :: st) s := Ze_gf (len := 3) (idx := 165) (by decide +kernel) rfl h rfl
theorem x50_186 : Ze d 50 186 [l0, l1, aI z, l3, l4, l5] st s = Ze d 50 187 [l0, l1, aI z, l3, l4, l5] (aI z :: st) s := Ze_n (i := (.iload_n 2)) (len := 1) (by decide +kernel) rfl
theorem x50_187 : Ze d 50 187 [l0, l1, l2, l3, l4, l5] st s = Ze d 50 188 [l0, l1, l2, l3, l4, l5] (aI 1 :: st) s := Ze_n (i := (.iconst 1)) (len := 1) (by decide +kernel) rfl
theorem x50_188 : Ze d 50 188 [l0, l1, l2, l3, l4, l5] (aI b :: aI a :: st) s = Ze d 50 189 [l0, l1, l2, l3, l4, l5] (aI (wrap (a - b)) :: st) s := Ze_n (i := .isub) (len := 1) (by decide +kernel) rfl
theorem x50_189 (h0 : 0 ≤ i) (h1 : i < aN2 r) : Ze d 50 189 [l0, l1, l2, l3, l4, l5] (aI i :: aR r :: st) s = Ze d 50 190 [l0, l1, l2, l3, l4, l5] (aI (s r i.toNat) :: st) s := Ze_n (i := .baload) (len := 1) (by decide +kernel) (if_pos ⟨h0, h1⟩)
theorem x50_190 : Ze d 50 190 [l0, l1, l2, l3, l4, l5] (aI a :: st) s = if a = 0 then Ze d 50 208 [l0, l1, l2, l3, l4, l5] st s else Ze d 50 193 [l0, l1, l2, l3, l4, l5] st s := Ze_b (i := (.ifCond .eq 18)) (len := 3) (by decide +kernel) rfl
theorem x50_193 : Ze d 50 193 [aR r, l1, l2, l3, l4, l5] st s = Ze d 50 194 [aR r, l1, l2, l3, l4, l5] (aR r :: st) s := Ze_n (i := (.aload_n 0)) (len := 1) (by decide +kernel) rfl
theorem x50_194 (h : obC r = 0) : Ze d 50 194 [l0, l1, l2, l3, l4, l5] (aR r :: st) s = Ze d 50 197 [l0, l1, l2, l3, l4, l5] (aR (fcn r 65) :: st) s := Ze_gf (len := 3) (idx := 162) (by decide +kernel) rfl h rfl
theorem x50_197 : Ze d 50 197 [l0, l1, aI z, l3, l4, l5] st s = Ze d 50 198 [l0, l1, aI z, l3, l4, l5] (aI z :: st) s := Ze_n (i := (.iload_n 2)) (len := 1) (by decide +kernel) rfl
theorem x50_198 : Ze d 50 198 [l0, l1, l2, l3, l4, l5] st s = Ze d 50 199 [l0, l1, l2, l3, l4, l5] (aI 1 :: st) s := Ze_n (i := (.iconst 1)) (len := 1) (by decide +kernel) rfl
theorem x50_199 : Ze d 50 199 [l0, l1, l2, l3, l4, l5] (aI b :: aI a :: st) s = Ze d 50 200 [l0, l1, l2, l3, l4, l5] (aI (wrap (a - b)) :: st) s := Ze_n (i := .isub) (len := 1) (by decide +kernel) rfl
theorem x50_200 (h0 : 0 ≤ i) (h1 : i < aN2 r) : Ze d 50 200 [l0, l1, l2, l3, l4, l5] (aI i :: aR r :: st) s = Ze d 50 201 [l0, l1, l2, l3, l4, l5] (aI (s r i.toNat) :: st) s := Ze_n (i := .baload) (len := 1) (by decide +kernel) (if_pos ⟨h0, h1⟩)
theorem x50_201 : Ze d 50 201 [l0, l1, l2, l3, l4, l5] (aI a :: st) s = if a = 0 then Ze d 50 204 [l0, l1, l2, l3, l4, l5] st s else Ze d 50 208 [l0, l1, l2, l3, l4, l5] st s := Ze_b (i := (.ifCond .ne 7)) (len := 3) (by decide +kernel) rfl
theorem x50_204 : Ze d 50 204 [l0, l1, l2, l3, l4, l5] st s = Ze d 50 205 [l0, l1, l2, l3, l4, l5] (aI 1 :: st) s := Ze_n (i := (.iconst 1)) (len := 1) (by decide +kernel) rfl
theorem x50_205 : Ze d 50 205 [l0, l1, l2, l3, l4, l5] st s = Ze d 50 209 [l0, l1, l2, l3, l4, l5] st s := Ze_n (i := (.goto 4)) (len := 3) (by decide +kernel) rfl
theorem x50_208 : Ze d 50 208 [l0, l1, l2, l3, l4, l5] st s = Ze d 50 209 [l0, l1, l2, l3, l4, l5] (aI 0 :: st) s := Ze_n (i := (.iconst 0)) (len := 1) (by decide +kernel) rfl
theorem x50_209 : Ze d 50 209 [l0, l1, l2, l3, l4, l5] (aI z :: st) s = Ze d 50 211 [l0, l1, l2, l3, aI z, l5] st s := Ze_n (i := (.istore 4)) (len := 2) (by decide +kernel) rfl
theorem x50_211 : Ze d 50 211 [l0, l1, l2, l3, l4, l5] st s = Ze d 50 225 [l0, l1, l2, l3, l4, l5] st s := Ze_n (i := (.goto 14)) (len := 3) (by decide +kernel) rfl
theorem x50_214 : Ze d 50 214 [l0, l1, aI z, l3, l4, l5] st s = Ze d 50 217 [l0, l1, aI (wrap (z + (-1))), l3, l4, l5] st s := Ze_n (i := (.iinc 2 (-1))) (len := 3) (by decide +kernel) rfl
theorem x50_217 : Ze d 50 217 [aR r, l1, l2, l3, l4, l5] st s = Ze d 50 218 [aR r, l1, l2, l3, l4, l5] (aR r :: st) s := Ze_n (i := (.aload_n 0)) (len := 1) (by decide +kernel) rfl
theorem x50_218 (h : obC r = 0) : Ze d 50 218 [l0, l1, l2, l3, l4, l5] (aR r :: st) s = Ze d 50 221 [l0, l1, l2, l3, l4, l5] (aR (fcn r 66) :: st) s := Ze_gf (len := 3) (idx := 165) (by decide +kernel) rfl h rfl
theorem x50_221 : Ze d 50 221 [l0, l1, aI z, l3, l4, l5] st s = Ze d 50 222 [l0, l1, aI z, l3, l4, l5] (aI z :: st) s := Ze_n (i := (.iload_n 2)) (len := 1) (by decide +kernel) rfl
theorem x50_222 (h0 : 0 ≤ i) (h1 : i < aN2 r) : Ze d 50 222 [l0, l1, l2, l3, l4, l5] (aI i :: aR r :: st) s = Ze d 50 223 [l0, l1, l2, l3, l4, l5] (aI (s r i.toNat) :: st) s := Ze_n (i := .baload) (len := 1) (by decide +kernel) (if_pos ⟨h0, h1⟩)
theorem x50_223 : Ze d 50 223 [l0, l1, l2, l3, l4, l5] (aI z :: st) s = Ze d 50 225 [l0, l1, l2, l3, aI z, l5] st s := Ze_n (i := (.istore 4)) (len := 2) (by decide +kernel) rfl
theorem x50_225 : Ze d 50 225 [l0, l1, l2, l3, l4, aI z] st s = Ze d 50 228 [l0, l1, l2, l3, l4, aI (wrap (z + 1))] st s := Ze_n (i := (.iinc 5 1)) (len := 3) (by decide +kernel) rfl
theorem x50_228 : Ze d 50 228 [l0, l1, l2, l3, l4, l5] st s = Ze d 50 17 [l0, l1, l2, l3, l4, l5] st s := Ze_n (i := (.goto (-211))) (len := 3) (by decide +kernel) rfl
theorem x50_231 : Ze d 50 231 [l0, l1, l2, aI z, l4, l5] st s = Ze d 50 232 [l0, l1, l2, aI z, l4, l5] (aI z :: st) s := Ze_n (i := (.iload_n 3)) (len := 1) (by decide +kernel) rfl
theorem x50_232 : Ze d 50 232 [aR r, l1, l2, l3, l4, l5] st s = Ze d 50 233 [aR r, l1, l2, l3, l4, l5] (aR r :: st) s := Ze_n (i := (.aload_n 0)) (len := 1) (by decide +kernel) rfl
theorem x50_233 (h : obC r = 0) : Ze d 50 233 [l0, l1, l2, l3, l4, l5] (aR r :: st) s = Ze d 50 236 [l0, l1, l2, l3, l4, l5] (aR (fcn r 47) :: st) s := Ze_gf (len := 3) (idx := 125) (by decide +kernel) rfl h rfl
theorem x50_236 : Ze d 50 236 [l0, l1, l2, l3, l4, l5] st s = Ze d 50 238 [l0, l1, l2, l3, l4, l5] (aI 24 :: st) s := Ze_n (i := (.bipush 24)) (len := 2) (by decide +kernel) rfl
theorem x50_238 : Ze d 50 238 [l0, aI z, l2, l3, l4, l5] st s = Ze d 50 239 [l0, aI z, l2, l3, l4, l5] (aI z :: st) s := Ze_n (i := (.iload_n 1)) (len := 1) (by decide +kernel) rfl
theorem x50_239 : Ze d 50 239 [l0, l1, l2, l3, l4, l5] (aI b :: aI a :: st) s = Ze d 50 240 [l0, l1, l2, l3, l4, l5] (aI (wrap (a + b)) :: st) s := Ze_n (i := .iadd) (len := 1) (by decide +kernel) rfl
theorem x50_240 (h0 : 0 ≤ i) (h1 : i < aN1 r) : Ze d 50 240 [l0, l1, l2, l3, l4, l5] (aI i :: aR r :: st) s = Ze d 50 241 [l0, l1, l2, l3, l4, l5] (aI (s r i.toNat) :: st) s := Ze_n (i := .iaload) (len := 1) (by decide +kernel) (if_pos ⟨h0, h1⟩)
theorem x50_241 (h6 : st.length ≤ 4) : Ze d 50 241 [l0, l1, l2, l3, l4, l5] (aI a0 :: st) s = zcI (Zc d 48 [aI a0] s) d 50 244 [l0, l1, l2, l3, l4, l5] st := Ze_csI (idx := 386) (len := 3) (as := [aI a0]) (by decide +kernel) rfl rfl (by decide +kernel) rfl h6
theorem x50_244 : Ze d 50 244 [l0, l1, l2, l3, l4, l5] (aI b :: aI a :: st) s = Ze d 50 245 [l0, l1, l2, l3, l4, l5] (aI (iand a b) :: st) s := Ze_n (i := .iand) (len := 1) (by decide +kernel) rfl
theorem x50_245 : Ze d 50 245 [l0, l1, l2, l3, l4, l5] [aI z] s = rI z s := Ze_i1 (by decide +kernel) rfl
theorem en50 : Zc (d + 1) 50 [aR r, aI a1] s = Ze d 50 0 [aR r, aI a1, aU, aU, aU, aU] [] s := rfl
theorem x116_0 : Ze d 116 0 [aI z] st s = Ze d 116 1 [aI z] (aI z :: st) s := Ze_n (i := (.iload_n 0)) (len := 1) (by decide +kernel) rfl
theorem x116_1 : Ze d 116 1 [l0] (aI a :: st) s = if a = 33 then Ze d 116 100 [l0] st s else if a = 35 then Ze d 116 102 [l0] st s else if a = 38 then Ze d 116 102 [l0] st s else if a = 43 then Ze d 116 102 [l0] st s else if a = 45 then Ze d 116 102 [l0] st s else if a = 60 then Ze d 116 102 [l0] st s else if a = 61 then Ze d 116 102 [l0] st s else if a = 77 then Ze d 116 104 [l0] st s else if a = 84 then Ze d 116 100 [l0] st s else if a = 94 then Ze d 116 102 [l0] st s else if a = 124 then Ze d 116 102 [l0] st s else Ze d 116 106 [l0] st s :=
  Ze_lk (dflt := 105) (ps := #[(33, 99), (35, 101), (38, 101), (43, 101), (45, 101), (60, 101), (61, 101), (77, 103), (84, 99), (94, 101), (124, 101)]) (len := 99) (ks := [(33, 100), (35, 102), (38, 102), (43, 102), (45, 102), (60, 102), (61, 102), (77, 104), (84, 100), (94, 102), (124, 102)]) (df := 106) (by decide +kernel) (by decide +kernel) (by decide +kernel)
theorem x116_100 : Ze d 116 100 [l0] st s = Ze d 116 101 [l0] (aI 1 :: st) s := Ze_n (i := (.iconst 1)) (len := 1) (by decide +kernel) rfl
theorem x116_101 : Ze d 116 101 [l0] [aI z] s = rI z s := Ze_i1 (by decide +kernel) rfl
theorem x116_102 : Ze d 116 102 [l0] st s = Ze d 116 103 [l0] (aI 2 :: st) s := Ze_n (i := (.iconst 2)) (len := 1) (by decide +kernel) rfl
theorem x116_103 : Ze d 116 103 [l0] [aI z] s = rI z s := Ze_i1 (by decide +kernel) rfl
theorem x116_104 : Ze d 116 104 [l0] st s = Ze d 116 105 [l0] (aI 3 :: st) s := Ze_n (i := (.iconst 3)) (len := 1) (by decide +kernel) rfl
theorem x116_105 : Ze d 116 105 [l0] [aI z] s = rI z s := Ze_i1 (by decide +kernel) rfl
theorem x116_106 : Ze d 116 106 [l0] st s = Ze d 116 107 [l0] (aI 0 :: st) s := Ze_n (i := (.iconst 0)) (len := 1) (by decide +kernel) rfl
theorem x116_107 : Ze d 116 107 [l0] [aI z] s = rI z s := Ze_i1 (by decide +kernel) rfl
theorem en116 : Zc (d + 1) 116 [aI a0] s = Ze d 116 0 [aI a0] [] s := rfl
