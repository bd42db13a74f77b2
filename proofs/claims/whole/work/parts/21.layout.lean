/-! THE MEMORY behind the two constructors: 155 cells; the class from 0 on, the reference from 119 on -/
def NN : Nat := 155
def mKl : List (Nat × Nat) := [(11, 7), (7, 9), (10, 8), (9, 13), (0, 12), (0, 12), (0, 6), (0, 8), (2, 8), (0, 12), (0, 12), (0, 12), (0, 6), (0, 6), (0, 6), (8, 4), (0, 144), (0, 400), (8, 4), (0, 144), (0, 0), (8, 4), (0, 144), (0, 0), (8, 4), (0, 144), (0, 0), (3, 8), (0, 16), (0, 8), (0, 9), (0, 9), (0, 9), (0, 80), (0, 600), (9, 13), (0, 12), (0, 12), (0, 6), (0, 8), (0, 12), (0, 32), (0, 5), (0, 5), (10, 8), (9, 13), (0, 12), (0, 12), (0, 6), (0, 8), (2, 8), (0, 12), (0, 12), (0, 12), (0, 6), (0, 6), (0, 6), (8, 4), (0, 144), (0, 400), (8, 4), (0, 144), (0, 0), (8, 4), (0, 144), (0, 0), (8, 4), (0, 144), (0, 0), (3, 8), (0, 16), (0, 8), (0, 9), (0, 9), (0, 9), (0, 80), (0, 600), (5, 3), (1, 6), (9, 13), (0, 12), (0, 12), (0, 6), (0, 8), (9, 13), (0, 12), (0, 12), (0, 6), (0, 8), (9, 13), (0, 12), (0, 12), (0, 6), (0, 8), (9, 13), (0, 12), (0, 12), (0, 6), (0, 8), (9, 13), (0, 12), (0, 12), (0, 6), (0, 8), (9, 13), (0, 12), (0, 12), (0, 6), (0, 8), (6, 13), (0, 400), (0, 401), (0, 401), (0, 401), (8, 4), (0, 144), (0, 400), (4, 1), (0, 225), (12, 62), (0, 47), (0, 282), (0, 47), (0, 12), (0, 12), (0, 12), (0, 6), (0, 6), (0, 600), (0, 400), (0, 143), (0, 2), (0, 48), (0, 48), (0, 48), (0, 48), (0, 1200), (0, 1200), (0, 40), (0, 288), (0, 96), (0, 24), (0, 12), (0, 420), (0, 5), (0, 5), (0, 16), (0, 96), (0, 225), (0, 8), (0, 9), (0, 9), (0, 9), (0, 6), (0, 2300)]
def KK : mK := fun k => mKl.getD k (0, 0)
def mPl : List (List (Option Nat)) := [[some 1, some 2, some 44, none, some 77, some 109, some 117], [some 2, some 35, some 3, none, some 40, some 41, some 42, some 43], [some 3, some 8, some 15, some 18, some 21, some 24, some 27, some 34], [some 4, some 5, some 6, some 7], [], [], [], [], [some 9, some 10, some 11, some 12, some 13, some 14], [], [], [], [], [], [], [some 16, some 17], [], [], [some 19, some 20], [], [], [some 22, some 23], [], [], [some 25, some 26], [], [], [some 28, some 29, some 30, some 31, some 32, none, none, some 33], [], [], [], [], [], [], [], [some 36, some 37, some 38, some 39], [], [], [], [], [], [], [], [], [some 45, some 50, some 57, some 60, some 63, some 66, some 69, some 76], [some 46, some 47, some 48, some 49], [], [], [], [], [some 51, some 52, some 53, some 54, some 55, some 56], [], [], [], [], [], [], [some 58, some 59], [], [], [some 61, some 62], [], [], [some 64, some 65], [], [], [some 67, some 68], [], [], [some 70, some 71, some 72, some 73, some 74, none, none, some 75], [], [], [], [], [], [], [], [some 78], [some 79, some 84, some 89, some 94, some 99, some 104], [some 80, some 81, some 82, some 83], [], [], [], [], [some 85, some 86, some 87, some 88], [], [], [], [], [some 90, some 91, some 92, some 93], [], [], [], [], [some 95, some 96, some 97, some 98], [], [], [], [], [some 100, some 101, some 102, some 103], [], [], [], [], [some 105, some 106, some 107, some 108], [], [], [], [], [some 110, none, some 111, some 112, some 113, none, none, none, none, none, some 114], [], [], [], [], [some 115, some 116], [], [], [some 118], [], [none, some 120, some 121, none, some 122, none, none, none, some 123, some 124, some 125, some 126, some 127, some 128, some 129, none, none, none, none, none, some 130, some 131, some 132, some 133, some 134, some 135, some 136, some 137, none, none, none, some 138, none, none, none, none, none, none, some 139, none, some 140, none, some 141, some 142, some 143, none, some 144, some 145, none, some 146, some 147, some 148, some 149, none, some 150, some 151, some 152, some 153, none, none, none, some 154], [], [], [], [], [], [], [], [], [], [], [], [], [], [], [], [], [], [], [], [], [], [], [], [], [], [], [], [], [], [], [], [], [], [], []]
def PP (s : Nat) : mP := fun a k => if a = 1 ∧ k = 2 then some s else (mPl.getD a []).getD k none
theorem kk_0 : KK 0 = (11, 7) := rfl
theorem kk_1 : KK 1 = (7, 9) := rfl
theorem kk_2 : KK 2 = (10, 8) := rfl
theorem kk_3 : KK 3 = (9, 13) := rfl
theorem kk_4 : KK 4 = (0, 12) := rfl
theorem kk_5 : KK 5 = (0, 12) := rfl
theorem kk_6 : KK 6 = (0, 6) := rfl
theorem kk_7 : KK 7 = (0, 8) := rfl
theorem kk_8 : KK 8 = (2, 8) := rfl
theorem kk_9 : KK 9 = (0, 12) := rfl
theorem kk_10 : KK 10 = (0, 12) := rfl
theorem kk_11 : KK 11 = (0, 12) := rfl
theorem kk_12 : KK 12 = (0, 6) := rfl
theorem kk_13 : KK 13 = (0, 6) := rfl
theorem kk_14 : KK 14 = (0, 6) := rfl
theorem kk_15 : KK 15 = (8, 4) := rfl
theorem kk_16 : KK 16 = (0, 144) := rfl
theorem kk_17 : KK 17 = (0, 400) := rfl
theorem kk_18 : KK 18 = (8, 4) := rfl
theorem kk_19 : KK 19 = (0, 144) := rfl
theorem kk_20 : KK 20 = (0, 0) := rfl
theorem kk_21 : KK 21 = (8, 4) := rfl
theorem kk_22 : KK 22 = (0, 144) := rfl
theorem kk_23 : KK 23 = (0, 0) := rfl
theorem kk_24 : KK 24 = (8, 4) := rfl
theorem kk_25 : KK 25 = (0, 144) := rfl
theorem kk_26 : KK 26 = (0, 0) := rfl
theorem kk_27 : KK 27 = (3, 8) := rfl
theorem kk_28 : KK 28 = (0, 16) := rfl
theorem kk_29 : KK 29 = (0, 8) := rfl
theorem kk_30 : KK 30 = (0, 9) := rfl
theorem kk_31 : KK 31 = (0, 9) := rfl
theorem kk_32 : KK 32 = (0, 9) := rfl
theorem kk_33 : KK 33 = (0, 80) := rfl
theorem kk_34 : KK 34 = (0, 600) := rfl
theorem kk_35 : KK 35 = (9, 13) := rfl
theorem kk_36 : KK 36 = (0, 12) := rfl
theorem kk_37 : KK 37 = (0, 12) := rfl
theorem kk_38 : KK 38 = (0, 6) := rfl
theorem kk_39 : KK 39 = (0, 8) := rfl
theorem kk_40 : KK 40 = (0, 12) := rfl
theorem kk_41 : KK 41 = (0, 32) := rfl
theorem kk_42 : KK 42 = (0, 5) := rfl
theorem kk_43 : KK 43 = (0, 5) := rfl
theorem kk_44 : KK 44 = (10, 8) := rfl
theorem kk_45 : KK 45 = (9, 13) := rfl
theorem kk_46 : KK 46 = (0, 12) := rfl
theorem kk_47 : KK 47 = (0, 12) := rfl
theorem kk_48 : KK 48 = (0, 6) := rfl
theorem kk_49 : KK 49 = (0, 8) := rfl
theorem kk_50 : KK 50 = (2, 8) := rfl
theorem kk_51 : KK 51 = (0, 12) := rfl
theorem kk_52 : KK 52 = (0, 12) := rfl
theorem kk_53 : KK 53 = (0, 12) := rfl
theorem kk_54 : KK 54 = (0, 6) := rfl
theorem kk_55 : KK 55 = (0, 6) := rfl
theorem kk_56 : KK 56 = (0, 6) := rfl
theorem kk_57 : KK 57 = (8, 4) := rfl
theorem kk_58 : KK 58 = (0, 144) := rfl
theorem kk_59 : KK 59 = (0, 400) := rfl
theorem kk_60 : KK 60 = (8, 4) := rfl
theorem kk_61 : KK 61 = (0, 144) := rfl
theorem kk_62 : KK 62 = (0, 0) := rfl
theorem kk_63 : KK 63 = (8, 4) := rfl
theorem kk_64 : KK 64 = (0, 144) := rfl
theorem kk_65 : KK 65 = (0, 0) := rfl
theorem kk_66 : KK 66 = (8, 4) := rfl
theorem kk_67 : KK 67 = (0, 144) := rfl
theorem kk_68 : KK 68 = (0, 0) := rfl
theorem kk_69 : KK 69 = (3, 8) := rfl
theorem kk_70 : KK 70 = (0, 16) := rfl
theorem kk_71 : KK 71 = (0, 8) := rfl
theorem kk_72 : KK 72 = (0, 9) := rfl
theorem kk_73 : KK 73 = (0, 9) := rfl
theorem kk_74 : KK 74 = (0, 9) := rfl
theorem kk_75 : KK 75 = (0, 80) := rfl
theorem kk_76 : KK 76 = (0, 600) := rfl
theorem kk_77 : KK 77 = (5, 3) := rfl
theorem kk_78 : KK 78 = (1, 6) := rfl
theorem kk_79 : KK 79 = (9, 13) := rfl
theorem kk_80 : KK 80 = (0, 12) := rfl
theorem kk_81 : KK 81 = (0, 12) := rfl
theorem kk_82 : KK 82 = (0, 6) := rfl
theorem kk_83 : KK 83 = (0, 8) := rfl
theorem kk_84 : KK 84 = (9, 13) := rfl
theorem kk_85 : KK 85 = (0, 12) := rfl
theorem kk_86 : KK 86 = (0, 12) := rfl
theorem kk_87 : KK 87 = (0, 6) := rfl
theorem kk_88 : KK 88 = (0, 8) := rfl
theorem kk_89 : KK 89 = (9, 13) := rfl
theorem kk_90 : KK 90 = (0, 12) := rfl
theorem kk_91 : KK 91 = (0, 12) := rfl
theorem kk_92 : KK 92 = (0, 6) := rfl
theorem kk_93 : KK 93 = (0, 8) := rfl
theorem kk_94 : KK 94 = (9, 13) := rfl
theorem kk_95 : KK 95 = (0, 12) := rfl
theorem kk_96 : KK 96 = (0, 12) := rfl
theorem kk_97 : KK 97 = (0, 6) := rfl
theorem kk_98 : KK 98 = (0, 8) := rfl
theorem kk_99 : KK 99 = (9, 13) := rfl
theorem kk_100 : KK 100 = (0, 12) := rfl
theorem kk_101 : KK 101 = (0, 12) := rfl
theorem kk_102 : KK 102 = (0, 6) := rfl
theorem kk_103 : KK 103 = (0, 8) := rfl
theorem kk_104 : KK 104 = (9, 13) := rfl
theorem kk_105 : KK 105 = (0, 12) := rfl
theorem kk_106 : KK 106 = (0, 12) := rfl
theorem kk_107 : KK 107 = (0, 6) := rfl
theorem kk_108 : KK 108 = (0, 8) := rfl
theorem kk_109 : KK 109 = (6, 13) := rfl
theorem kk_110 : KK 110 = (0, 400) := rfl
theorem kk_111 : KK 111 = (0, 401) := rfl
theorem kk_112 : KK 112 = (0, 401) := rfl
theorem kk_113 : KK 113 = (0, 401) := rfl
theorem kk_114 : KK 114 = (8, 4) := rfl
theorem kk_115 : KK 115 = (0, 144) := rfl
theorem kk_116 : KK 116 = (0, 400) := rfl
theorem kk_117 : KK 117 = (4, 1) := rfl
theorem kk_118 : KK 118 = (0, 225) := rfl
theorem kk_119 : KK 119 = (12, 62) := rfl
theorem kk_120 : KK 120 = (0, 47) := rfl
theorem kk_121 : KK 121 = (0, 282) := rfl
theorem kk_122 : KK 122 = (0, 47) := rfl
theorem kk_123 : KK 123 = (0, 12) := rfl
theorem kk_124 : KK 124 = (0, 12) := rfl
theorem kk_125 : KK 125 = (0, 12) := rfl
theorem kk_126 : KK 126 = (0, 6) := rfl
theorem kk_127 : KK 127 = (0, 6) := rfl
theorem kk_128 : KK 128 = (0, 600) := rfl
theorem kk_129 : KK 129 = (0, 400) := rfl
theorem kk_130 : KK 130 = (0, 143) := rfl
theorem kk_131 : KK 131 = (0, 2) := rfl
theorem kk_132 : KK 132 = (0, 48) := rfl
theorem kk_133 : KK 133 = (0, 48) := rfl
theorem kk_134 : KK 134 = (0, 48) := rfl
theorem kk_135 : KK 135 = (0, 48) := rfl
theorem kk_136 : KK 136 = (0, 1200) := rfl
theorem kk_137 : KK 137 = (0, 1200) := rfl
theorem kk_138 : KK 138 = (0, 40) := rfl
theorem kk_139 : KK 139 = (0, 288) := rfl
theorem kk_140 : KK 140 = (0, 96) := rfl
theorem kk_141 : KK 141 = (0, 24) := rfl
theorem kk_142 : KK 142 = (0, 12) := rfl
theorem kk_143 : KK 143 = (0, 420) := rfl
theorem kk_144 : KK 144 = (0, 5) := rfl
theorem kk_145 : KK 145 = (0, 5) := rfl
theorem kk_146 : KK 146 = (0, 16) := rfl
theorem kk_147 : KK 147 = (0, 96) := rfl
theorem kk_148 : KK 148 = (0, 225) := rfl
theorem kk_149 : KK 149 = (0, 8) := rfl
theorem kk_150 : KK 150 = (0, 9) := rfl
theorem kk_151 : KK 151 = (0, 9) := rfl
theorem kk_152 : KK 152 = (0, 9) := rfl
theorem kk_153 : KK 153 = (0, 6) := rfl
theorem kk_154 : KK 154 = (0, 2300) := rfl
theorem pp_0_0 (s : Nat) : PP s 0 0 = some 1 := rfl
theorem pp_0_1 (s : Nat) : PP s 0 1 = some 2 := rfl
theorem pp_0_2 (s : Nat) : PP s 0 2 = some 44 := rfl
theorem pp_0_4 (s : Nat) : PP s 0 4 = some 77 := rfl
theorem pp_0_5 (s : Nat) : PP s 0 5 = some 109 := rfl
theorem pp_0_6 (s : Nat) : PP s 0 6 = some 117 := rfl
theorem pp_1_0 (s : Nat) : PP s 1 0 = some 2 := rfl
theorem pp_1_1 (s : Nat) : PP s 1 1 = some 35 := rfl
theorem pp_1_2 (s : Nat) : PP s 1 2 = some s := rfl
theorem pp_1_4 (s : Nat) : PP s 1 4 = some 40 := rfl
theorem pp_1_5 (s : Nat) : PP s 1 5 = some 41 := rfl
theorem pp_1_6 (s : Nat) : PP s 1 6 = some 42 := rfl
theorem pp_1_7 (s : Nat) : PP s 1 7 = some 43 := rfl
theorem pp_2_0 (s : Nat) : PP s 2 0 = some 3 := rfl
theorem pp_2_1 (s : Nat) : PP s 2 1 = some 8 := rfl
theorem pp_2_2 (s : Nat) : PP s 2 2 = some 15 := rfl
theorem pp_2_3 (s : Nat) : PP s 2 3 = some 18 := rfl
theorem pp_2_4 (s : Nat) : PP s 2 4 = some 21 := rfl
theorem pp_2_5 (s : Nat) : PP s 2 5 = some 24 := rfl
theorem pp_2_6 (s : Nat) : PP s 2 6 = some 27 := rfl
theorem pp_2_7 (s : Nat) : PP s 2 7 = some 34 := rfl
theorem pp_3_0 (s : Nat) : PP s 3 0 = some 4 := rfl
theorem pp_3_1 (s : Nat) : PP s 3 1 = some 5 := rfl
theorem pp_3_2 (s : Nat) : PP s 3 2 = some 6 := rfl
theorem pp_3_3 (s : Nat) : PP s 3 3 = some 7 := rfl
theorem pp_8_0 (s : Nat) : PP s 8 0 = some 9 := rfl
theorem pp_8_1 (s : Nat) : PP s 8 1 = some 10 := rfl
theorem pp_8_2 (s : Nat) : PP s 8 2 = some 11 := rfl
theorem pp_8_3 (s : Nat) : PP s 8 3 = some 12 := rfl
theorem pp_8_4 (s : Nat) : PP s 8 4 = some 13 := rfl
theorem pp_8_5 (s : Nat) : PP s 8 5 = some 14 := rfl
theorem pp_15_0 (s : Nat) : PP s 15 0 = some 16 := rfl
theorem pp_15_1 (s : Nat) : PP s 15 1 = some 17 := rfl
theorem pp_18_0 (s : Nat) : PP s 18 0 = some 19 := rfl
theorem pp_18_1 (s : Nat) : PP s 18 1 = some 20 := rfl
theorem pp_21_0 (s : Nat) : PP s 21 0 = some 22 := rfl
theorem pp_21_1 (s : Nat) : PP s 21 1 = some 23 := rfl
theorem pp_24_0 (s : Nat) : PP s 24 0 = some 25 := rfl
theorem pp_24_1 (s : Nat) : PP s 24 1 = some 26 := rfl
theorem pp_27_0 (s : Nat) : PP s 27 0 = some 28 := rfl
theorem pp_27_1 (s : Nat) : PP s 27 1 = some 29 := rfl
theorem pp_27_2 (s : Nat) : PP s 27 2 = some 30 := rfl
theorem pp_27_3 (s : Nat) : PP s 27 3 = some 31 := rfl
theorem pp_27_4 (s : Nat) : PP s 27 4 = some 32 := rfl
theorem pp_27_7 (s : Nat) : PP s 27 7 = some 33 := rfl
theorem pp_35_0 (s : Nat) : PP s 35 0 = some 36 := rfl
theorem pp_35_1 (s : Nat) : PP s 35 1 = some 37 := rfl
theorem pp_35_2 (s : Nat) : PP s 35 2 = some 38 := rfl
theorem pp_35_3 (s : Nat) : PP s 35 3 = some 39 := rfl
theorem pp_44_0 (s : Nat) : PP s 44 0 = some 45 := rfl
theorem pp_44_1 (s : Nat) : PP s 44 1 = some 50 := rfl
theorem pp_44_2 (s : Nat) : PP s 44 2 = some 57 := rfl
theorem pp_44_3 (s : Nat) : PP s 44 3 = some 60 := rfl
theorem pp_44_4 (s : Nat) : PP s 44 4 = some 63 := rfl
theorem pp_44_5 (s : Nat) : PP s 44 5 = some 66 := rfl
theorem pp_44_6 (s : Nat) : PP s 44 6 = some 69 := rfl
theorem pp_44_7 (s : Nat) : PP s 44 7 = some 76 := rfl
theorem pp_45_0 (s : Nat) : PP s 45 0 = some 46 := rfl
theorem pp_45_1 (s : Nat) : PP s 45 1 = some 47 := rfl
theorem pp_45_2 (s : Nat) : PP s 45 2 = some 48 := rfl
theorem pp_45_3 (s : Nat) : PP s 45 3 = some 49 := rfl
theorem pp_50_0 (s : Nat) : PP s 50 0 = some 51 := rfl
theorem pp_50_1 (s : Nat) : PP s 50 1 = some 52 := rfl
theorem pp_50_2 (s : Nat) : PP s 50 2 = some 53 := rfl
theorem pp_50_3 (s : Nat) : PP s 50 3 = some 54 := rfl
theorem pp_50_4 (s : Nat) : PP s 50 4 = some 55 := rfl
theorem pp_50_5 (s : Nat) : PP s 50 5 = some 56 := rfl
theorem pp_57_0 (s : Nat) : PP s 57 0 = some 58 := rfl
theorem pp_57_1 (s : Nat) : PP s 57 1 = some 59 := rfl
theorem pp_60_0 (s : Nat) : PP s 60 0 = some 61 := rfl
theorem pp_60_1 (s : Nat) : PP s 60 1 = some 62 := rfl
theorem pp_63_0 (s : Nat) : PP s 63 0 = some 64 := rfl
theorem pp_63_1 (s : Nat) : PP s 63 1 = some 65 := rfl
theorem pp_66_0 (s : Nat) : PP s 66 0 = some 67 := rfl
theorem pp_66_1 (s : Nat) : PP s 66 1 = some 68 := rfl
theorem pp_69_0 (s : Nat) : PP s 69 0 = some 70 := rfl
theorem pp_69_1 (s : Nat) : PP s 69 1 = some 71 := rfl
theorem pp_69_2 (s : Nat) : PP s 69 2 = some 72 := rfl
theorem pp_69_3 (s : Nat) : PP s 69 3 = some 73 := rfl
theorem pp_69_4 (s : Nat) : PP s 69 4 = some 74 := rfl
theorem pp_69_7 (s : Nat) : PP s 69 7 = some 75 := rfl
theorem pp_77_0 (s : Nat) : PP s 77 0 = some 78 := rfl
theorem pp_78_0 (s : Nat) : PP s 78 0 = some 79 := rfl
theorem pp_78_1 (s : Nat) : PP s 78 1 = some 84 := rfl
theorem pp_78_2 (s : Nat) : PP s 78 2 = some 89 := rfl
theorem pp_78_3 (s : Nat) : PP s 78 3 = some 94 := rfl
theorem pp_78_4 (s : Nat) : PP s 78 4 = some 99 := rfl
theorem pp_78_5 (s : Nat) : PP s 78 5 = some 104 := rfl
theorem pp_79_0 (s : Nat) : PP s 79 0 = some 80 := rfl
theorem pp_79_1 (s : Nat) : PP s 79 1 = some 81 := rfl
theorem pp_79_2 (s : Nat) : PP s 79 2 = some 82 := rfl
theorem pp_79_3 (s : Nat) : PP s 79 3 = some 83 := rfl
theorem pp_84_0 (s : Nat) : PP s 84 0 = some 85 := rfl
theorem pp_84_1 (s : Nat) : PP s 84 1 = some 86 := rfl
theorem pp_84_2 (s : Nat) : PP s 84 2 = some 87 := rfl
theorem pp_84_3 (s : Nat) : PP s 84 3 = some 88 := rfl
theorem pp_89_0 (s : Nat) : PP s 89 0 = some 90 := rfl
theorem pp_89_1 (s : Nat) : PP s 89 1 = some 91 := rfl
theorem pp_89_2 (s : Nat) : PP s 89 2 = some 92 := rfl
theorem pp_89_3 (s : Nat) : PP s 89 3 = some 93 := rfl
theorem pp_94_0 (s : Nat) : PP s 94 0 = some 95 := rfl
theorem pp_94_1 (s : Nat) : PP s 94 1 = some 96 := rfl
theorem pp_94_2 (s : Nat) : PP s 94 2 = some 97 := rfl
theorem pp_94_3 (s : Nat) : PP s 94 3 = some 98 := rfl
theorem pp_99_0 (s : Nat) : PP s 99 0 = some 100 := rfl
theorem pp_99_1 (s : Nat) : PP s 99 1 = some 101 := rfl
theorem pp_99_2 (s : Nat) : PP s 99 2 = some 102 := rfl
theorem pp_99_3 (s : Nat) : PP s 99 3 = some 103 := rfl
theorem pp_104_0 (s : Nat) : PP s 104 0 = some 105 := rfl
theorem pp_104_1 (s : Nat) : PP s 104 1 = some 106 := rfl
theorem pp_104_2 (s : Nat) : PP s 104 2 = some 107 := rfl
theorem pp_104_3 (s : Nat) : PP s 104 3 = some 108 := rfl
theorem pp_109_0 (s : Nat) : PP s 109 0 = some 110 := rfl
theorem pp_109_2 (s : Nat) : PP s 109 2 = some 111 := rfl
theorem pp_109_3 (s : Nat) : PP s 109 3 = some 112 := rfl
theorem pp_109_4 (s : Nat) : PP s 109 4 = some 113 := rfl
theorem pp_109_10 (s : Nat) : PP s 109 10 = some 114 := rfl
theorem pp_114_0 (s : Nat) : PP s 114 0 = some 115 := rfl
theorem pp_114_1 (s : Nat) : PP s 114 1 = some 116 := rfl
theorem pp_117_0 (s : Nat) : PP s 117 0 = some 118 := rfl
theorem pp_119_1 (s : Nat) : PP s 119 1 = some 120 := rfl
theorem pp_119_2 (s : Nat) : PP s 119 2 = some 121 := rfl
theorem pp_119_4 (s : Nat) : PP s 119 4 = some 122 := rfl
theorem pp_119_8 (s : Nat) : PP s 119 8 = some 123 := rfl
theorem pp_119_9 (s : Nat) : PP s 119 9 = some 124 := rfl
theorem pp_119_10 (s : Nat) : PP s 119 10 = some 125 := rfl
theorem pp_119_11 (s : Nat) : PP s 119 11 = some 126 := rfl
theorem pp_119_12 (s : Nat) : PP s 119 12 = some 127 := rfl
theorem pp_119_13 (s : Nat) : PP s 119 13 = some 128 := rfl
theorem pp_119_14 (s : Nat) : PP s 119 14 = some 129 := rfl
theorem pp_119_20 (s : Nat) : PP s 119 20 = some 130 := rfl
theorem pp_119_21 (s : Nat) : PP s 119 21 = some 131 := rfl
theorem pp_119_22 (s : Nat) : PP s 119 22 = some 132 := rfl
theorem pp_119_23 (s : Nat) : PP s 119 23 = some 133 := rfl
theorem pp_119_24 (s : Nat) : PP s 119 24 = some 134 := rfl
theorem pp_119_25 (s : Nat) : PP s 119 25 = some 135 := rfl
theorem pp_119_26 (s : Nat) : PP s 119 26 = some 136 := rfl
theorem pp_119_27 (s : Nat) : PP s 119 27 = some 137 := rfl
theorem pp_119_31 (s : Nat) : PP s 119 31 = some 138 := rfl
theorem pp_119_38 (s : Nat) : PP s 119 38 = some 139 := rfl
theorem pp_119_40 (s : Nat) : PP s 119 40 = some 140 := rfl
theorem pp_119_42 (s : Nat) : PP s 119 42 = some 141 := rfl
theorem pp_119_43 (s : Nat) : PP s 119 43 = some 142 := rfl
theorem pp_119_44 (s : Nat) : PP s 119 44 = some 143 := rfl
theorem pp_119_46 (s : Nat) : PP s 119 46 = some 144 := rfl
theorem pp_119_47 (s : Nat) : PP s 119 47 = some 145 := rfl
theorem pp_119_49 (s : Nat) : PP s 119 49 = some 146 := rfl
theorem pp_119_50 (s : Nat) : PP s 119 50 = some 147 := rfl
theorem pp_119_51 (s : Nat) : PP s 119 51 = some 148 := rfl
theorem pp_119_52 (s : Nat) : PP s 119 52 = some 149 := rfl
theorem pp_119_54 (s : Nat) : PP s 119 54 = some 150 := rfl
theorem pp_119_55 (s : Nat) : PP s 119 55 = some 151 := rfl
theorem pp_119_56 (s : Nat) : PP s 119 56 = some 152 := rfl
theorem pp_119_57 (s : Nat) : PP s 119 57 = some 153 := rfl
theorem pp_119_61 (s : Nat) : PP s 119 61 = some 154 := rfl
abbrev mIx (i : Int32) (k N : Nat) : Prop := ¬ i < 0 ∧ i.toNatClampNeg = k ∧ k < N
theorem mIx_in {i : Int32} {k N : Nat} (h : mIx i k N) : vp_in i N := by
  obtain ⟨h1, h2, h3⟩ := h
  rintro (h | h)
  · exact h1 h
  · omega
def mb (p : Prop) [Decidable p] : Int32 := if p then 1 else 0
theorem mb_t {p : Prop} [Decidable p] (h : p) : mb p = 1 := if_pos h
theorem mb_f {p : Prop} [Decidable p] (h : ¬ p) : mb p = 0 := if_neg h
theorem mb_nar (p : Prop) [Decidable p] : narrow .boolean (.int (mb p)) = .int (mb p) := by
  by_cases h : p
  · rw [mb_t h]; rfl
  · rw [mb_f h]; rfl
theorem mb_eq0 {p : Prop} [Decidable p] : mb p = 0 ↔ ¬ p := by
  by_cases h : p
  · rw [mb_t h]; simp [h]
  · rw [mb_f h]; simp [h]
theorem mb_ne0 {p : Prop} [Decidable p] : ¬ mb p = 0 ↔ p := by
  by_cases h : p
  · rw [mb_t h]; simp [h]
  · rw [mb_f h]; simp [h]
/-- 'for k in 0 .. n - 1' -/
def mFor {α : Type} (f : Nat → α → α) : Nat → α → α
  | 0, x => x
  | n + 1, x => f n (mFor f n x)
theorem mFor_zero {α : Type} (f : Nat → α → α) (x : α) : mFor f 0 x = x := rfl
theorem mFor_succ {α : Type} (f : Nat → α → α) (n : Nat) (x : α) : mFor f (n + 1) x = f n (mFor f n x) := rfl
/-- a loop that counts: its head at k with the state x -/
theorem mLoop {α : Type} {f : Nat → α → α} {n : Nat} {x0 : α} (Hd : Nat → α → Prop) (hstep : ∀ k, k < n → ∀ x, x = mFor f k x0 → Hd (k + 1) (f k x) → Hd k x) (hend : Hd n (mFor f n x0)) : Hd 0 x0 := by
  have key : ∀ k, k ≤ n → Hd (n - k) (mFor f (n - k) x0) := by
    intro k
    induction k with
    | zero => intro _; exact hend
    | succ k ih =>
      intro hk
      have h1 := ih (by omega)
      have e : n - k = (n - (k + 1)) + 1 := by omega
      rw [e] at h1
      exact hstep (n - (k + 1)) (by omega) _ rfl h1
  have := key n (Nat.le_refl n)
  rwa [Nat.sub_self] at this
section MVE
variable {X : Nat × (Nat → Int32)} {j : mMeth} {d bc bs pc q ci N k a r : Nat} {L st : List Value} {n : Nat} {K : mK} {I : mI} {P : mP} {Q : mQ} {x i : Int32}
theorem mV_gI (x : Int32) (hd : mGet j pc ci N k q) (ha : a < n) (hk : K a = (ci + 2, N)) (hr : mRf ci k = false) (hv : I a k = x) (kk : mV X j d bc bs q L (.int x :: st) n K I P Q) : mV X j d bc bs pc L (.ref a :: st) n K I P Q := by
  subst hv
  exact mV_getI hd ha hk hr kk
theorem mV_ld (x : Int32) (k : Nat) (hd : mD j pc .iaload 1 q) (ha : a < n) (hk : K a = (0, N)) (hin : mIx i k N) (hv : I a k = x) (kk : mV X j d bc bs q L (.int x :: st) n K I P Q) : mV X j d bc bs pc L (.int i :: .ref a :: st) n K I P Q := by
  subst hv
  obtain ⟨-, rfl, -⟩ := id hin
  exact mV_iaload hd ha hk (mIx_in hin) kk
theorem mV_sto (k : Nat) (hd : mD j pc .iastore 1 q) (ha : a < n) (hk : K a = (0, N)) (hin : mIx i k N) (kk : mV X j d bc bs q L st n K (mW I a k x) P Q) : mV X j d bc bs pc L (.int x :: .int i :: .ref a :: st) n K I P Q := by
  obtain ⟨-, rfl, -⟩ := id hin
  exact mV_iastore hd ha hk (mIx_in hin) kk
/-- a value by another name -/
theorem mV_as (y : Int32) (h : x = y) (kk : mV X j d bc bs pc L (.int y :: st) n K I P Q) : mV X j d bc bs pc L (.int x :: st) n K I P Q := by
  subst h; exact kk
theorem mV_mem (I' : mI) (h : I = I') (kk : mV X j d bc bs pc L st n K I' P Q) : mV X j d bc bs pc L st n K I P Q := by
  subst h; exact kk
end MVE
section MVM
variable {X : Nat × (Nat → Int32)} {j : mMeth} {d bc bs pc q : Nat} {L st : List Value} {n : Nat} {K : mK} {I : mI} {P : mP} {Q : mQ} {x y : Int32}
def mMath (j : mMeth) (pc : Nat) (y : MethodName) (cd : ByteArray) (na q : Nat) : Prop := ∃ idx : Nat, mD j pc (.invokestatic idx) 3 q ∧ Cond.methodLink j.1.cls idx y ∈ mTb ∧ Cond.static y ∈ mTb ∧ Cond.initialized "java/lang/Math" ∈ mTb ∧ Cond.code y cd na (some .int) ∈ mTb
theorem mV_max (hd : mMath j pc Lib.Math.max.name Lib.Math.max.code 2 q) (hst : (st.map fun v => v.category).sum ≤ 8) (k : mV X j (d + 1) bc bs q L (.int (if x < y then y else x) :: st) n K I P Q) : mV X j (d + 1) bc bs pc L (.int y :: .int x :: st) n K I P Q := by
  intro b D cI cS aK aV p l e R s m args below meth c H locs cells slots Tc Ts ls hC hR hS hL t1 t2 t3 t4
  obtain ⟨idx, ⟨h1, rfl⟩, w1, w2, w3, w4⟩ := hd
  obtain ⟨hx, hb, -, hml, hown, -, -, hts, -, hf1, hf2⟩ := id hC
  exact va_mmax hx hb (by rw [hml]; exact hL.1.symm) hown (hts _ w1) (hts _ w2) (hts _ w3) (hts _ w4) (by omega) (by rw [mEm_cats]; omega) (by omega) (by omega) h1 (k b D cI cS aK aV p l e R s m args below meth c H locs cells slots Tc Ts ls hC hR hS hL t1 t2 t3 t4)
theorem mV_min (hd : mMath j pc Lib.Math.min.name Lib.Math.min.code 2 q) (hst : (st.map fun v => v.category).sum ≤ 8) (k : mV X j (d + 1) bc bs q L (.int (if y < x then y else x) :: st) n K I P Q) : mV X j (d + 1) bc bs pc L (.int y :: .int x :: st) n K I P Q := by
  intro b D cI cS aK aV p l e R s m args below meth c H locs cells slots Tc Ts ls hC hR hS hL t1 t2 t3 t4
  obtain ⟨idx, ⟨h1, rfl⟩, w1, w2, w3, w4⟩ := hd
  obtain ⟨hx, hb, -, hml, hown, -, -, hts, -, hf1, hf2⟩ := id hC
  exact va_mmin hx hb (by rw [hml]; exact hL.1.symm) hown (hts _ w1) (hts _ w2) (hts _ w3) (hts _ w4) (by omega) (by rw [mEm_cats]; omega) (by omega) (by omega) h1 (k b D cI cS aK aV p l e R s m args below meth c H locs cells slots Tc Ts ls hC hR hS hL t1 t2 t3 t4)
theorem mV_abs (hd : mMath j pc Lib.Math.abs.name Lib.Math.abs.code 1 q) (hst : (st.map fun v => v.category).sum ≤ 8) (k : mV X j (d + 1) bc bs q L (.int (if 0 ≤ x then x else 0 - x) :: st) n K I P Q) : mV X j (d + 1) bc bs pc L (.int x :: st) n K I P Q := by
  intro b D cI cS aK aV p l e R s m args below meth c H locs cells slots Tc Ts ls hC hR hS hL t1 t2 t3 t4
  obtain ⟨idx, ⟨h1, rfl⟩, w1, w2, w3, w4⟩ := hd
  obtain ⟨hx, hb, -, hml, hown, -, -, hts, -, hf1, hf2⟩ := id hC
  exact va_mabs hx hb (by rw [hml]; exact hL.1.symm) hown (hts _ w1) (hts _ w2) (hts _ w3) (hts _ w4) (by omega) (by rw [mEm_cats]; omega) (by omega) (by omega) h1 (k b D cI cS aK aV p l e R s m args below meth c H locs cells slots Tc Ts ls hC hR hS hL t1 t2 t3 t4)
end MVM

/-! Math at its places -/
theorem mt_max_c : Cond.code Lib.Math.max.name Lib.Math.max.code 2 (some .int) ∈ mTb := mTb_in (tin_1 (List.mem_of_getElem? (i := 168) (by decide +kernel))) rfl
theorem mt_max_s : Cond.static Lib.Math.max.name ∈ mTb := mTb_in (tin_1 (List.mem_of_getElem? (i := 167) (by decide +kernel))) rfl
theorem mt_min_c : Cond.code Lib.Math.min.name Lib.Math.min.code 2 (some .int) ∈ mTb := mTb_in (tin_3 (List.mem_of_getElem? (i := 19) (by decide +kernel))) rfl
theorem mt_min_s : Cond.static Lib.Math.min.name ∈ mTb := mTb_in (tin_3 (List.mem_of_getElem? (i := 18) (by decide +kernel))) rfl
theorem mt_abs_c : Cond.code Lib.Math.abs.name Lib.Math.abs.code 1 (some .int) ∈ mTb := mTb_in (tin_5 (List.mem_of_getElem? (i := 27) (by decide +kernel))) rfl
theorem mt_abs_s : Cond.static Lib.Math.abs.name ∈ mTb := mTb_in (tin_5 (List.mem_of_getElem? (i := 26) (by decide +kernel))) rfl
theorem fm0_mostHadFrom_103 : mMath m0_mostHadFrom 103 Lib.Math.min.name Lib.Math.min.code 2 106 := ⟨61, ⟨by decide +kernel, rfl⟩, ml0_61, mt_min_s, izJ9, mt_min_c⟩
theorem fm1_twiceLength_31 : mMath m1_twiceLength 31 Lib.Math.max.name Lib.Math.max.code 2 34 := ⟨47, ⟨by decide +kernel, rfl⟩, ml1_47, mt_max_s, izJ9, mt_max_c⟩
theorem fm1_longestRise_45 : mMath m1_longestRise 45 Lib.Math.max.name Lib.Math.max.code 2 48 := ⟨47, ⟨by decide +kernel, rfl⟩, ml1_47, mt_max_s, izJ9, mt_max_c⟩
theorem fm1_sweetPlaces_4 : mMath m1_sweetPlaces 4 Lib.Math.max.name Lib.Math.max.code 2 7 := ⟨47, ⟨by decide +kernel, rfl⟩, ml1_47, mt_max_s, izJ9, mt_max_c⟩
theorem fm1_sweetPlaces_37 : mMath m1_sweetPlaces 37 Lib.Math.abs.name Lib.Math.abs.code 1 40 := ⟨52, ⟨by decide +kernel, rfl⟩, ml1_52, mt_abs_s, izJ9, mt_abs_c⟩
theorem fm1_stepCost_25 : mMath m1_stepCost 25 Lib.Math.abs.name Lib.Math.abs.code 1 28 := ⟨52, ⟨by decide +kernel, rfl⟩, ml1_52, mt_abs_s, izJ9, mt_abs_c⟩
theorem fm1_costFrom_47 : mMath m1_costFrom 47 Lib.Math.min.name Lib.Math.min.code 2 50 := ⟨61, ⟨by decide +kernel, rfl⟩, ml1_61, mt_min_s, izJ9, mt_min_c⟩
theorem fm1_clashes_74 : mMath m1_clashes 74 Lib.Math.abs.name Lib.Math.abs.code 1 77 := ⟨52, ⟨by decide +kernel, rfl⟩, ml1_52, mt_abs_s, izJ9, mt_abs_c⟩
theorem fm2_spanOf_34 : mMath m2_spanOf 34 Lib.Math.min.name Lib.Math.min.code 2 37 := ⟨31, ⟨by decide +kernel, rfl⟩, ml2_31, mt_min_s, izJ9, mt_min_c⟩
theorem fm4_splitTape_146 : mMath m4_splitTape 146 Lib.Math.max.name Lib.Math.max.code 2 149 := ⟨175, ⟨by decide +kernel, rfl⟩, ml4_175, mt_max_s, izJ9, mt_max_c⟩
theorem fm5_passDay_155 : mMath m5_passDay 155 Lib.Math.max.name Lib.Math.max.code 2 158 := ⟨90, ⟨by decide +kernel, rfl⟩, ml5_90, mt_max_s, izJ9, mt_max_c⟩
theorem fm5_bringChild_8 : mMath m5_bringChild 8 Lib.Math.min.name Lib.Math.min.code 2 11 := ⟨118, ⟨by decide +kernel, rfl⟩, ml5_118, mt_min_s, izJ9, mt_min_c⟩
theorem fm5_waitBehind_81 : mMath m5_waitBehind 81 Lib.Math.min.name Lib.Math.min.code 2 84 := ⟨118, ⟨by decide +kernel, rfl⟩, ml5_118, mt_min_s, izJ9, mt_min_c⟩
theorem fm5_ask_169 : mMath m5_ask 169 Lib.Math.min.name Lib.Math.min.code 2 172 := ⟨118, ⟨by decide +kernel, rfl⟩, ml5_118, mt_min_s, izJ9, mt_min_c⟩
theorem fm5_ask_172 : mMath m5_ask 172 Lib.Math.max.name Lib.Math.max.code 2 175 := ⟨90, ⟨by decide +kernel, rfl⟩, ml5_90, mt_max_s, izJ9, mt_max_c⟩
theorem fm5_run_13 : mMath m5_run 13 Lib.Math.max.name Lib.Math.max.code 2 16 := ⟨90, ⟨by decide +kernel, rfl⟩, ml5_90, mt_max_s, izJ9, mt_max_c⟩
theorem fm6_init_26 : mMath m6_init 26 Lib.Math.max.name Lib.Math.max.code 2 29 := ⟨22, ⟨by decide +kernel, rfl⟩, ml6_22, mt_max_s, izJ9, mt_max_c⟩
theorem fm6_copyFrom_28 : mMath m6_copyFrom 28 Lib.Math.min.name Lib.Math.min.code 2 31 := ⟨37, ⟨by decide +kernel, rfl⟩, ml6_37, mt_min_s, izJ9, mt_min_c⟩
theorem fm6_copyFrom_36 : mMath m6_copyFrom 36 Lib.Math.min.name Lib.Math.min.code 2 39 := ⟨37, ⟨by decide +kernel, rfl⟩, ml6_37, mt_min_s, izJ9, mt_min_c⟩
theorem fm7_addWater_10 : mMath m7_addWater 10 Lib.Math.min.name Lib.Math.min.code 2 13 := ⟨60, ⟨by decide +kernel, rfl⟩, ml7_60, mt_min_s, izJ9, mt_min_c⟩
theorem fm7_dryUp_22 : mMath m7_dryUp 22 Lib.Math.min.name Lib.Math.min.code 2 25 := ⟨60, ⟨by decide +kernel, rfl⟩, ml7_60, mt_min_s, izJ9, mt_min_c⟩
theorem fm7_flatten_25 : mMath m7_flatten 25 Lib.Math.min.name Lib.Math.min.code 2 28 := ⟨60, ⟨by decide +kernel, rfl⟩, ml7_60, mt_min_s, izJ9, mt_min_c⟩
theorem fm8_setsThatWept_49 : mMath m8_setsThatWept 49 Lib.Math.min.name Lib.Math.min.code 2 52 := ⟨91, ⟨by decide +kernel, rfl⟩, ml8_91, mt_min_s, izJ9, mt_min_c⟩
theorem fm8_setsThatWept_115 : mMath m8_setsThatWept 115 Lib.Math.min.name Lib.Math.min.code 2 118 := ⟨91, ⟨by decide +kernel, rfl⟩, ml8_91, mt_min_s, izJ9, mt_min_c⟩
theorem fm9_canon_49 : mMath m9_canon 49 Lib.Math.max.name Lib.Math.max.code 2 52 := ⟨279, ⟨by decide +kernel, rfl⟩, ml9_279, mt_max_s, izJ9, mt_max_c⟩
theorem PP_set {s a : Nat} : mW (PP s) 1 2 (some a) = PP a := by
  funext x k
  by_cases h : x = 1
  · subst h
    by_cases hk : k = 2
    · subst hk; simp [mW, mU, PP]
    · simp [mW, mU, PP, hk]
  · simp [mW, mU, PP, h]
