theorem obC_0 : obC 0 = 0 := rfl
theorem aN1_1 : aN1 1 = 200 := rfl
theorem aN1_2 : aN1 2 = 220 := rfl
theorem aN1_3 : aN1 3 = 220 := rfl
theorem aN1_4 : aN1 4 = 220 := rfl
theorem aN1_5 : aN1 5 = 220 := rfl
theorem aN1_6 : aN1 6 = 120 := rfl
theorem aN1_7 : aN1 7 = 120 := rfl
theorem aN1_8 : aN1 8 = 120 := rfl
theorem aN1_9 : aN1 9 = 120 := rfl
theorem aN1_10 : aN1 10 = 4 := rfl
theorem aN1_11 : aN1 11 = 4 := rfl
theorem aN1_12 : aN1 12 = 440 := rfl
theorem aN1_13 : aN1 13 = 440 := rfl
theorem aN1_14 : aN1 14 = 440 := rfl
theorem aN1_15 : aN1 15 = 440 := rfl
theorem aN1_16 : aN1 16 = 440 := rfl
theorem aN1_17 : aN1 17 = 440 := rfl
theorem aN1_18 : aN1 18 = 440 := rfl
theorem aN1_19 : aN1 19 = 440 := rfl
theorem aN1_20 : aN1 20 = 1320 := rfl
theorem aN1_21 : aN1 21 = 220 := rfl
theorem aN1_22 : aN1 22 = 220 := rfl
theorem aN1_23 : aN1 23 = 8 := rfl
theorem aN1_24 : aN1 24 = 8 := rfl
theorem aN1_25 : aN1 25 = 120 := rfl
theorem aN1_26 : aN1 26 = 120 := rfl
theorem aN1_27 : aN1 27 = 120 := rfl
theorem aN1_28 : aN1 28 = 120 := rfl
theorem aN1_29 : aN1 29 = 120 := rfl
theorem aN1_30 : aN1 30 = 120 := rfl
theorem aN1_31 : aN1 31 = 4 := rfl
theorem aN1_32 : aN1 32 = 26 := rfl
theorem aN1_33 : aN1 33 = 26 := rfl
theorem aN1_34 : aN1 34 = 26 := rfl
theorem aN1_35 : aN1 35 = 48 := rfl
theorem aN1_36 : aN1 36 = 48 := rfl
theorem aN1_37 : aN1 37 = 48 := rfl
theorem aN1_38 : aN1 38 = 48 := rfl
theorem aN1_39 : aN1 39 = 48 := rfl
theorem aN1_40 : aN1 40 = 48 := rfl
theorem aN1_41 : aN1 41 = 2200 := rfl
theorem aN1_42 : aN1 42 = 2200 := rfl
theorem aN1_43 : aN1 43 = 2200 := rfl
theorem aN1_44 : aN1 44 = 24 := rfl
theorem aN1_45 : aN1 45 = 24 := rfl
theorem aN1_46 : aN1 46 = 24 := rfl
theorem aN1_47 : aN1 47 = 24 := rfl
theorem aN1_48 : aN1 48 = 24 := rfl
theorem aN2_49 : aN2 49 = 24 := rfl
theorem aN2_50 : aN2 50 = 5 := rfl
theorem aN2_51 : aN2 51 = 5 := rfl
theorem aN2_52 : aN2 52 = 5 := rfl
theorem aN1_53 : aN1 53 = 5 := rfl
theorem aN1_54 : aN1 54 = 5 := rfl
theorem aN1_55 : aN1 55 = 5 := rfl
theorem obC_56 : obC 56 = 1 := rfl
theorem aN3_57 : aN3 57 = 200 := rfl
theorem obC_58 : obC 58 = 3 := rfl
theorem obC_59 : obC 59 = 8 := rfl
theorem aN1_60 : aN1 60 = 24 := rfl
theorem aN1_61 : aN1 61 = 24 := rfl
theorem aN1_62 : aN1 62 = 24 := rfl
theorem aN2_63 : aN2 63 = 24 := rfl
theorem aN2_64 : aN2 64 = 24 := rfl
theorem aN2_65 : aN2 65 = 24 := rfl
theorem obC_66 : obC 66 = 6 := rfl
theorem aN1_67 : aN1 67 = 225 := rfl
theorem aN1_68 : aN1 68 = 225 := rfl
theorem aN1_69 : aN1 69 = 225 := rfl
theorem aN1_70 : aN1 70 = 225 := rfl
theorem aN1_71 : aN1 71 = 225 := rfl
theorem aN1_72 : aN1 72 = 225 := rfl
theorem aN1_73 : aN1 73 = 225 := rfl
theorem aN1_74 : aN1 74 = 840 := rfl
theorem aN1_75 : aN1 75 = 840 := rfl
theorem aN1_76 : aN1 76 = 840 := rfl
theorem aN1_77 : aN1 77 = 24 := rfl
theorem aN1_78 : aN1 78 = 24 := rfl
theorem aN1_79 : aN1 79 = 24 := rfl
theorem aN1_80 : aN1 80 = 24 := rfl
theorem aN1_81 : aN1 81 = 24 := rfl
theorem aN1_82 : aN1 82 = 24 := rfl
theorem aN1_83 : aN1 83 = 24 := rfl
theorem obC_84 : obC 84 = 3 := rfl
theorem obC_85 : obC 85 = 8 := rfl
theorem aN1_86 : aN1 86 = 24 := rfl
theorem aN1_87 : aN1 87 = 24 := rfl
theorem aN1_88 : aN1 88 = 24 := rfl
theorem aN2_89 : aN2 89 = 24 := rfl
theorem aN2_90 : aN2 90 = 24 := rfl
theorem aN2_91 : aN2 91 = 24 := rfl
theorem obC_92 : obC 92 = 6 := rfl
theorem aN1_93 : aN1 93 = 225 := rfl
theorem aN1_94 : aN1 94 = 225 := rfl
theorem aN1_95 : aN1 95 = 225 := rfl
theorem aN1_96 : aN1 96 = 225 := rfl
theorem aN1_97 : aN1 97 = 225 := rfl
theorem aN1_98 : aN1 98 = 225 := rfl
theorem aN1_99 : aN1 99 = 225 := rfl
theorem aN1_100 : aN1 100 = 840 := rfl
theorem aN1_101 : aN1 101 = 840 := rfl
theorem aN1_102 : aN1 102 = 840 := rfl
theorem aN1_103 : aN1 103 = 24 := rfl
theorem aN1_104 : aN1 104 = 24 := rfl
theorem aN1_105 : aN1 105 = 24 := rfl
theorem aN1_106 : aN1 106 = 24 := rfl
theorem aN1_107 : aN1 107 = 24 := rfl
theorem aN1_108 : aN1 108 = 24 := rfl
theorem aN1_109 : aN1 109 = 24 := rfl
theorem obC_110 : obC 110 = 11 := rfl
theorem aN1_111 : aN1 111 = 201 := rfl
theorem aN1_112 : aN1 112 = 201 := rfl
theorem aN1_113 : aN1 113 = 201 := rfl
theorem obC_114 : obC 114 = 12 := rfl
theorem aN1_115 : aN1 115 = 201 := rfl
theorem aN1_116 : aN1 116 = 201 := rfl
theorem aN1_117 : aN1 117 = 201 := rfl
theorem aN1_118 : aN1 118 = 201 := rfl
theorem aN1_119 : aN1 119 = 200 := rfl
theorem aN2_120 : aN2 120 = 200 := rfl
theorem aN1_121 : aN1 121 = 200 := rfl
theorem aN1_122 : aN1 122 = 200 := rfl
theorem aN1_123 : aN1 123 = 200 := rfl
theorem obC_124 : obC 124 = 10 := rfl
theorem aN1_125 : aN1 125 = 200 := rfl
theorem aN1_126 : aN1 126 = 200 := rfl
theorem aN1_127 : aN1 127 = 200 := rfl
theorem aN1_128 : aN1 128 = 200 := rfl
theorem aN1_129 : aN1 129 = 200 := rfl
theorem obC_130 : obC 130 = 4 := rfl
theorem obC_131 : obC 131 = 7 := rfl
theorem aN2_132 : aN2 132 = 3 := rfl
theorem obC_133 : obC 133 = 2 := rfl
theorem aN1_134 : aN1 134 = 26 := rfl
theorem aN1_135 : aN1 135 = 26 := rfl
theorem obC_136 : obC 136 = 9 := rfl
theorem obC_137 : obC 137 = 5 := rfl
theorem aN1_138 : aN1 138 = 1065 := rfl
theorem aN1_139 : aN1 139 = 24 := rfl
theorem aN4_140 : aN4 140 = 3 := rfl
theorem aN1_141 : aN1 141 = 24 := rfl
theorem aN1_142 : aN1 142 = 24 := rfl
theorem aN1_143 : aN1 143 = 24 := rfl
theorem aN4_144 : aN4 144 = 3 := rfl
theorem aN1_145 : aN1 145 = 24 := rfl
theorem aN1_146 : aN1 146 = 24 := rfl
theorem aN1_147 : aN1 147 = 24 := rfl
theorem aN1_148 : aN1 148 = 3 := rfl
theorem aN1_149 : aN1 149 = 3 := rfl
theorem aN1_150 : aN1 150 = 24 := rfl
theorem fcn_0_0 : fcn 0 0 = 1 := rfl
theorem fcn_0_6 : fcn 0 6 = 2 := rfl
theorem fcn_0_7 : fcn 0 7 = 3 := rfl
theorem fcn_0_8 : fcn 0 8 = 4 := rfl
theorem fcn_0_9 : fcn 0 9 = 5 := rfl
theorem fcn_0_10 : fcn 0 10 = 6 := rfl
theorem fcn_0_11 : fcn 0 11 = 7 := rfl
theorem fcn_0_12 : fcn 0 12 = 8 := rfl
theorem fcn_0_13 : fcn 0 13 = 9 := rfl
theorem fcn_0_14 : fcn 0 14 = 10 := rfl
theorem fcn_0_15 : fcn 0 15 = 11 := rfl
theorem fcn_0_19 : fcn 0 19 = 12 := rfl
theorem fcn_0_20 : fcn 0 20 = 13 := rfl
theorem fcn_0_21 : fcn 0 21 = 14 := rfl
theorem fcn_0_22 : fcn 0 22 = 15 := rfl
theorem fcn_0_23 : fcn 0 23 = 16 := rfl
theorem fcn_0_24 : fcn 0 24 = 17 := rfl
theorem fcn_0_25 : fcn 0 25 = 18 := rfl
theorem fcn_0_26 : fcn 0 26 = 19 := rfl
theorem fcn_0_27 : fcn 0 27 = 20 := rfl
theorem fcn_0_28 : fcn 0 28 = 21 := rfl
theorem fcn_0_29 : fcn 0 29 = 22 := rfl
theorem fcn_0_30 : fcn 0 30 = 23 := rfl
theorem fcn_0_31 : fcn 0 31 = 24 := rfl
theorem fcn_0_33 : fcn 0 33 = 25 := rfl
theorem fcn_0_34 : fcn 0 34 = 26 := rfl
theorem fcn_0_35 : fcn 0 35 = 27 := rfl
theorem fcn_0_36 : fcn 0 36 = 28 := rfl
theorem fcn_0_37 : fcn 0 37 = 29 := rfl
theorem fcn_0_38 : fcn 0 38 = 30 := rfl
theorem fcn_0_39 : fcn 0 39 = 31 := rfl
theorem fcn_0_41 : fcn 0 41 = 32 := rfl
theorem fcn_0_42 : fcn 0 42 = 33 := rfl
theorem fcn_0_43 : fcn 0 43 = 34 := rfl
theorem fcn_0_44 : fcn 0 44 = 35 := rfl
theorem fcn_0_45 : fcn 0 45 = 36 := rfl
theorem fcn_0_46 : fcn 0 46 = 37 := rfl
theorem fcn_0_47 : fcn 0 47 = 38 := rfl
theorem fcn_0_48 : fcn 0 48 = 39 := rfl
theorem fcn_0_49 : fcn 0 49 = 40 := rfl
theorem fcn_0_54 : fcn 0 54 = 41 := rfl
theorem fcn_0_55 : fcn 0 55 = 42 := rfl
theorem fcn_0_56 : fcn 0 56 = 43 := rfl
theorem fcn_0_59 : fcn 0 59 = 44 := rfl
theorem fcn_0_60 : fcn 0 60 = 45 := rfl
theorem fcn_0_61 : fcn 0 61 = 46 := rfl
theorem fcn_0_62 : fcn 0 62 = 47 := rfl
theorem fcn_0_63 : fcn 0 63 = 48 := rfl
theorem fcn_0_64 : fcn 0 64 = 49 := rfl
theorem fcn_0_65 : fcn 0 65 = 50 := rfl
theorem fcn_0_66 : fcn 0 66 = 51 := rfl
theorem fcn_0_67 : fcn 0 67 = 52 := rfl
theorem fcn_0_68 : fcn 0 68 = 53 := rfl
theorem fcn_0_69 : fcn 0 69 = 54 := rfl
theorem fcn_0_70 : fcn 0 70 = 55 := rfl
theorem fcn_56_0 : fcn 56 0 = 57 := rfl
theorem fcn_56_6 : fcn 56 6 = 110 := rfl
theorem fcn_56_7 : fcn 56 7 = 131 := rfl
theorem fcn_56_8 : fcn 56 8 = 133 := rfl
theorem fcn_56_9 : fcn 56 9 = 136 := rfl
theorem fcn_56_10 : fcn 56 10 = 137 := rfl
theorem fcn_58_0 : fcn 58 0 = 59 := rfl
theorem fcn_58_1 : fcn 58 1 = 66 := rfl
theorem fcn_58_3 : fcn 58 3 = 74 := rfl
theorem fcn_58_4 : fcn 58 4 = 75 := rfl
theorem fcn_58_5 : fcn 58 5 = 76 := rfl
theorem fcn_58_7 : fcn 58 7 = 77 := rfl
theorem fcn_58_8 : fcn 58 8 = 78 := rfl
theorem fcn_58_9 : fcn 58 9 = 79 := rfl
theorem fcn_58_11 : fcn 58 11 = 80 := rfl
theorem fcn_58_12 : fcn 58 12 = 81 := rfl
theorem fcn_58_13 : fcn 58 13 = 82 := rfl
theorem fcn_58_14 : fcn 58 14 = 83 := rfl
theorem fcn_59_0 : fcn 59 0 = 60 := rfl
theorem fcn_59_1 : fcn 59 1 = 61 := rfl
theorem fcn_59_2 : fcn 59 2 = 62 := rfl
theorem fcn_59_3 : fcn 59 3 = 63 := rfl
theorem fcn_59_4 : fcn 59 4 = 64 := rfl
theorem fcn_59_5 : fcn 59 5 = 65 := rfl
theorem fcn_66_0 : fcn 66 0 = 67 := rfl
theorem fcn_66_1 : fcn 66 1 = 68 := rfl
theorem fcn_66_2 : fcn 66 2 = 69 := rfl
theorem fcn_66_3 : fcn 66 3 = 70 := rfl
theorem fcn_66_4 : fcn 66 4 = 71 := rfl
theorem fcn_66_5 : fcn 66 5 = 72 := rfl
theorem fcn_66_6 : fcn 66 6 = 73 := rfl
theorem fcn_84_0 : fcn 84 0 = 85 := rfl
theorem fcn_84_1 : fcn 84 1 = 92 := rfl
theorem fcn_84_3 : fcn 84 3 = 100 := rfl
theorem fcn_84_4 : fcn 84 4 = 101 := rfl
theorem fcn_84_5 : fcn 84 5 = 102 := rfl
theorem fcn_84_7 : fcn 84 7 = 103 := rfl
theorem fcn_84_8 : fcn 84 8 = 104 := rfl
theorem fcn_84_9 : fcn 84 9 = 105 := rfl
theorem fcn_84_11 : fcn 84 11 = 106 := rfl
theorem fcn_84_12 : fcn 84 12 = 107 := rfl
theorem fcn_84_13 : fcn 84 13 = 108 := rfl
theorem fcn_84_14 : fcn 84 14 = 109 := rfl
theorem fcn_85_0 : fcn 85 0 = 86 := rfl
theorem fcn_85_1 : fcn 85 1 = 87 := rfl
theorem fcn_85_2 : fcn 85 2 = 88 := rfl
theorem fcn_85_3 : fcn 85 3 = 89 := rfl
theorem fcn_85_4 : fcn 85 4 = 90 := rfl
theorem fcn_85_5 : fcn 85 5 = 91 := rfl
theorem fcn_92_0 : fcn 92 0 = 93 := rfl
theorem fcn_92_1 : fcn 92 1 = 94 := rfl
theorem fcn_92_2 : fcn 92 2 = 95 := rfl
theorem fcn_92_3 : fcn 92 3 = 96 := rfl
theorem fcn_92_4 : fcn 92 4 = 97 := rfl
theorem fcn_92_5 : fcn 92 5 = 98 := rfl
theorem fcn_92_6 : fcn 92 6 = 99 := rfl
theorem fcn_110_0 : fcn 110 0 = 111 := rfl
theorem fcn_110_1 : fcn 110 1 = 112 := rfl
theorem fcn_110_2 : fcn 110 2 = 113 := rfl
theorem fcn_114_0 : fcn 114 0 = 115 := rfl
theorem fcn_114_1 : fcn 114 1 = 116 := rfl
theorem fcn_114_2 : fcn 114 2 = 117 := rfl
theorem fcn_114_3 : fcn 114 3 = 118 := rfl
theorem fcn_114_5 : fcn 114 5 = 119 := rfl
theorem fcn_114_6 : fcn 114 6 = 120 := rfl
theorem fcn_114_7 : fcn 114 7 = 121 := rfl
theorem fcn_114_8 : fcn 114 8 = 122 := rfl
theorem fcn_114_9 : fcn 114 9 = 123 := rfl
theorem fcn_124_0 : fcn 124 0 = 125 := rfl
theorem fcn_124_1 : fcn 124 1 = 126 := rfl
theorem fcn_124_2 : fcn 124 2 = 127 := rfl
theorem fcn_124_3 : fcn 124 3 = 128 := rfl
theorem fcn_124_5 : fcn 124 5 = 129 := rfl
theorem fcn_130_0 : fcn 130 0 = 114 := rfl
theorem fcn_130_1 : fcn 130 1 = 124 := rfl
theorem fcn_131_0 : fcn 131 0 = 110 := rfl
theorem fcn_131_1 : fcn 131 1 = 114 := rfl
theorem fcn_131_2 : fcn 131 2 = 124 := rfl
theorem fcn_131_7 : fcn 131 7 = 132 := rfl
theorem fcn_133_0 : fcn 133 0 = 114 := rfl
theorem fcn_133_1 : fcn 133 1 = 124 := rfl
theorem fcn_133_2 : fcn 133 2 = 130 := rfl
theorem fcn_133_3 : fcn 133 3 = 134 := rfl
theorem fcn_133_4 : fcn 133 4 = 135 := rfl
theorem fcn_136_0 : fcn 136 0 = 124 := rfl
theorem fcn_136_1 : fcn 136 1 = 130 := rfl
theorem fcn_137_0 : fcn 137 0 = 124 := rfl
theorem fcn_137_1 : fcn 137 1 = 130 := rfl
theorem fcn_137_2 : fcn 137 2 = 138 := rfl
theorem fcn_137_3 : fcn 137 3 = 139 := rfl
theorem fcn_137_4 : fcn 137 4 = 140 := rfl
theorem fcn_137_5 : fcn 137 5 = 144 := rfl
theorem fcn_137_6 : fcn 137 6 = 148 := rfl
theorem fcn_137_7 : fcn 137 7 = 149 := rfl
theorem fcn_137_8 : fcn 137 8 = 150 := rfl
theorem rcn_140_0 : rcn 140 0 = 141 := rfl
theorem rcn_140_1 : rcn 140 1 = 142 := rfl
theorem rcn_140_2 : rcn 140 2 = 143 := rfl
theorem rcn_144_0 : rcn 144 0 = 145 := rfl
theorem rcn_144_1 : rcn 144 1 = 146 := rfl
theorem rcn_144_2 : rcn 144 2 = 147 := rfl
