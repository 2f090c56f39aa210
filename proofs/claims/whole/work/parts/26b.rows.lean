/-! Rows of instructions; what objects are; links. -/
set_option maxRecDepth 100000 in
theorem i143_38 : INS 143 38 = some (3, 1, 2, 0, .null, []) := rfl
set_option maxRecDepth 100000 in
theorem i143_39 : INS 143 39 = some (0, 1, 2, 0, .null, []) := rfl
set_option maxRecDepth 100000 in
theorem i143_40 : INS 143 40 = some (3, 1, 0, 0, .null, []) := rfl
set_option maxRecDepth 100000 in
theorem i143_41 : INS 143 41 = some (18, 1, 21, 0, .null, []) := rfl
set_option maxRecDepth 100000 in
theorem i143_42 : INS 143 42 = some (12, 3, 46, 0, .null, []) := rfl
set_option maxRecDepth 100000 in
theorem i143_45 : INS 143 45 = some (2, 1, 0, 0, .long 0, []) := rfl
set_option maxRecDepth 100000 in
theorem i143_46 : INS 143 46 = some (27, 1, 1, 0, .null, []) := rfl
set_option maxRecDepth 100000 in
theorem i144_0 : INS 144 0 = some (0, 1, 1, 0, .null, []) := rfl
set_option maxRecDepth 100000 in
theorem i144_1 : INS 144 1 = some (24, 3, 136, 2, .null, []) := rfl
set_option maxRecDepth 100000 in
theorem i144_4 : INS 144 4 = some (9, 3, 13, 1, .null, []) := rfl
set_option maxRecDepth 100000 in
theorem i144_7 : INS 144 7 = some (0, 1, 0, 2, .null, []) := rfl
set_option maxRecDepth 100000 in
theorem i144_8 : INS 144 8 = some (2, 1, 0, 0, .int (-1), []) := rfl
set_option maxRecDepth 100000 in
theorem i144_9 : INS 144 9 = some (24, 3, 124, 0, .null, []) := rfl
set_option maxRecDepth 100000 in
theorem i144_12 : INS 144 12 = some (27, 1, 0, 0, .null, []) := rfl
set_option maxRecDepth 100000 in
theorem i144_13 : INS 144 13 = some (0, 1, 0, 2, .null, []) := rfl
set_option maxRecDepth 100000 in
theorem i144_14 : INS 144 14 = some (16, 3, 11, 24, .null, []) := rfl
set_option maxRecDepth 100000 in
theorem i144_17 : INS 144 17 = some (0, 1, 1, 0, .null, []) := rfl
set_option maxRecDepth 100000 in
theorem i144_18 : INS 144 18 = some (18, 1, 20, 0, .null, []) := rfl
set_option maxRecDepth 100000 in
theorem i144_19 : INS 144 19 = some (1, 1, 2, 0, .null, []) := rfl
set_option maxRecDepth 100000 in
theorem i144_20 : INS 144 20 = some (0, 1, 0, 2, .null, []) := rfl
set_option maxRecDepth 100000 in
theorem i144_21 : INS 144 21 = some (16, 3, 11, 24, .null, []) := rfl
set_option maxRecDepth 100000 in
theorem i144_24 : INS 144 24 = some (0, 1, 1, 0, .null, []) := rfl
set_option maxRecDepth 100000 in
theorem i144_25 : INS 144 25 = some (2, 1, 0, 0, .int (-1), []) := rfl
set_option maxRecDepth 100000 in
theorem i144_26 : INS 144 26 = some (19, 1, 20, 0, .null, []) := rfl
set_option maxRecDepth 100000 in
theorem i144_27 : INS 144 27 = some (0, 1, 2, 0, .null, []) := rfl
set_option maxRecDepth 100000 in
theorem i144_28 : INS 144 28 = some (2, 1, 0, 0, .int (-1), []) := rfl
set_option maxRecDepth 100000 in
theorem i144_29 : INS 144 29 = some (10, 3, 36, 1, .null, []) := rfl
set_option maxRecDepth 100000 in
theorem i144_32 : INS 144 32 = some (2, 1, 0, 0, .int 0, []) := rfl
set_option maxRecDepth 100000 in
theorem i144_33 : INS 144 33 = some (12, 3, 37, 0, .null, []) := rfl
set_option maxRecDepth 100000 in
theorem i144_36 : INS 144 36 = some (2, 1, 0, 0, .int 1, []) := rfl
set_option maxRecDepth 100000 in
theorem i144_37 : INS 144 37 = some (27, 1, 0, 0, .null, []) := rfl
set_option maxRecDepth 100000 in
theorem i145_0 : INS 145 0 = some (0, 1, 1, 0, .null, []) := rfl
set_option maxRecDepth 100000 in
theorem i145_1 : INS 145 1 = some (24, 3, 136, 2, .null, []) := rfl
set_option maxRecDepth 100000 in
theorem i145_4 : INS 145 4 = some (9, 3, 16, 0, .null, []) := rfl
set_option maxRecDepth 100000 in
theorem i145_7 : INS 145 7 = some (0, 1, 0, 2, .null, []) := rfl
set_option maxRecDepth 100000 in
theorem i145_8 : INS 145 8 = some (16, 3, 11, 24, .null, []) := rfl
set_option maxRecDepth 100000 in
theorem i145_11 : INS 145 11 = some (0, 1, 1, 0, .null, []) := rfl
set_option maxRecDepth 100000 in
theorem i145_12 : INS 145 12 = some (18, 1, 20, 0, .null, []) := rfl
set_option maxRecDepth 100000 in
theorem i145_13 : INS 145 13 = some (12, 3, 17, 0, .null, []) := rfl
set_option maxRecDepth 100000 in
theorem i145_16 : INS 145 16 = some (2, 1, 0, 0, .int (-1), []) := rfl
set_option maxRecDepth 100000 in
theorem i145_17 : INS 145 17 = some (27, 1, 0, 0, .null, []) := rfl
set_option maxRecDepth 100000 in
theorem i146_0 : INS 146 0 = some (0, 1, 0, 2, .null, []) := rfl
set_option maxRecDepth 100000 in
theorem i146_1 : INS 146 1 = some (16, 3, 11, 26, .null, []) := rfl
set_option maxRecDepth 100000 in
theorem i146_4 : INS 146 4 = some (2, 2, 0, 0, .int 100, []) := rfl
set_option maxRecDepth 100000 in
theorem i146_6 : INS 146 6 = some (0, 1, 1, 0, .null, []) := rfl
set_option maxRecDepth 100000 in
theorem i146_7 : INS 146 7 = some (3, 1, 2, 0, .null, []) := rfl
set_option maxRecDepth 100000 in
theorem i146_8 : INS 146 8 = some (0, 1, 2, 0, .null, []) := rfl
set_option maxRecDepth 100000 in
theorem i146_9 : INS 146 9 = some (3, 1, 0, 0, .null, []) := rfl
set_option maxRecDepth 100000 in
theorem i146_10 : INS 146 10 = some (18, 1, 21, 0, .null, []) := rfl
set_option maxRecDepth 100000 in
theorem i146_11 : INS 146 11 = some (6, 1, 2, 0, .null, []) := rfl
set_option maxRecDepth 100000 in
theorem i146_12 : INS 146 12 = some (27, 1, 0, 0, .null, []) := rfl
set_option maxRecDepth 100000 in
theorem i147_0 : INS 147 0 = some (0, 1, 0, 2, .null, []) := rfl
set_option maxRecDepth 100000 in
theorem i147_1 : INS 147 1 = some (0, 1, 1, 0, .null, []) := rfl
set_option maxRecDepth 100000 in
theorem i147_2 : INS 147 2 = some (24, 3, 140, 0, .null, []) := rfl
set_option maxRecDepth 100000 in
theorem i147_5 : INS 147 5 = some (1, 1, 2, 0, .null, []) := rfl
set_option maxRecDepth 100000 in
theorem i147_6 : INS 147 6 = some (0, 1, 2, 0, .null, []) := rfl
set_option maxRecDepth 100000 in
theorem i147_7 : INS 147 7 = some (9, 3, 16, 0, .null, []) := rfl
set_option maxRecDepth 100000 in
theorem i147_10 : INS 147 10 = some (0, 1, 0, 2, .null, []) := rfl
set_option maxRecDepth 100000 in
theorem i147_11 : INS 147 11 = some (0, 1, 2, 0, .null, []) := rfl
set_option maxRecDepth 100000 in
theorem i147_12 : INS 147 12 = some (24, 3, 124, 0, .null, []) := rfl
set_option maxRecDepth 100000 in
theorem i147_15 : INS 147 15 = some (27, 1, 0, 0, .null, []) := rfl
set_option maxRecDepth 100000 in
theorem i147_16 : INS 147 16 = some (0, 1, 0, 2, .null, []) := rfl
set_option maxRecDepth 100000 in
theorem i147_17 : INS 147 17 = some (16, 3, 11, 25, .null, []) := rfl
set_option maxRecDepth 100000 in
theorem i147_20 : INS 147 20 = some (0, 1, 1, 0, .null, []) := rfl
set_option maxRecDepth 100000 in
theorem i147_21 : INS 147 21 = some (18, 1, 20, 0, .null, []) := rfl
set_option maxRecDepth 100000 in
theorem i147_22 : INS 147 22 = some (2, 1, 0, 0, .int 5, []) := rfl
set_option maxRecDepth 100000 in
theorem i147_23 : INS 147 23 = some (3, 1, 3, 0, .null, []) := rfl
set_option maxRecDepth 100000 in
theorem i147_24 : INS 147 24 = some (1, 1, 3, 0, .null, []) := rfl
set_option maxRecDepth 100000 in
theorem i147_25 : INS 147 25 = some (0, 1, 0, 2, .null, []) := rfl
set_option maxRecDepth 100000 in
theorem i147_26 : INS 147 26 = some (16, 3, 11, 25, .null, []) := rfl
set_option maxRecDepth 100000 in
theorem i147_29 : INS 147 29 = some (0, 1, 1, 0, .null, []) := rfl
set_option maxRecDepth 100000 in
theorem i147_30 : INS 147 30 = some (18, 1, 20, 0, .null, []) := rfl
set_option maxRecDepth 100000 in
theorem i147_31 : INS 147 31 = some (2, 1, 0, 0, .int 5, []) := rfl
set_option maxRecDepth 100000 in
theorem i147_32 : INS 147 32 = some (3, 1, 4, 0, .null, []) := rfl
set_option maxRecDepth 100000 in
theorem i147_33 : INS 147 33 = some (9, 3, 40, 1, .null, []) := rfl
set_option maxRecDepth 100000 in
theorem i147_36 : INS 147 36 = some (2, 1, 0, 0, .int 1, []) := rfl
set_option maxRecDepth 100000 in
theorem i147_37 : INS 147 37 = some (12, 3, 41, 0, .null, []) := rfl
set_option maxRecDepth 100000 in
theorem i147_40 : INS 147 40 = some (2, 1, 0, 0, .int 0, []) := rfl
set_option maxRecDepth 100000 in
theorem i147_41 : INS 147 41 = some (1, 2, 4, 0, .null, []) := rfl
set_option maxRecDepth 100000 in
theorem i147_43 : INS 147 43 = some (2, 1, 0, 0, .int 0, []) := rfl
set_option maxRecDepth 100000 in
theorem i147_44 : INS 147 44 = some (1, 2, 5, 0, .null, []) := rfl
set_option maxRecDepth 100000 in
theorem i147_46 : INS 147 46 = some (0, 2, 4, 0, .null, []) := rfl
set_option maxRecDepth 100000 in
theorem i147_48 : INS 147 48 = some (9, 3, 179, 0, .null, []) := rfl
set_option maxRecDepth 100000 in
theorem i147_51 : INS 147 51 = some (0, 2, 5, 0, .null, []) := rfl
set_option maxRecDepth 100000 in
theorem i147_53 : INS 147 53 = some (0, 1, 3, 0, .null, []) := rfl
set_option maxRecDepth 100000 in
theorem i147_54 : INS 147 54 = some (10, 3, 179, 3, .null, []) := rfl
set_option maxRecDepth 100000 in
theorem i147_57 : INS 147 57 = some (2, 1, 0, 0, .int 5, []) := rfl
set_option maxRecDepth 100000 in
theorem i147_58 : INS 147 58 = some (0, 2, 5, 0, .null, []) := rfl
set_option maxRecDepth 100000 in
theorem i147_60 : INS 147 60 = some (3, 1, 2, 0, .null, []) := rfl
set_option maxRecDepth 100000 in
theorem i147_61 : INS 147 61 = some (1, 2, 6, 0, .null, []) := rfl
set_option maxRecDepth 100000 in
theorem i147_63 : INS 147 63 = some (0, 1, 0, 2, .null, []) := rfl
set_option maxRecDepth 100000 in
theorem i147_64 : INS 147 64 = some (0, 1, 0, 2, .null, []) := rfl
set_option maxRecDepth 100000 in
theorem i147_65 : INS 147 65 = some (0, 1, 1, 0, .null, []) := rfl
set_option maxRecDepth 100000 in
theorem i147_66 : INS 147 66 = some (0, 2, 6, 0, .null, []) := rfl
set_option maxRecDepth 100000 in
theorem i147_68 : INS 147 68 = some (24, 3, 146, 0, .null, []) := rfl
set_option maxRecDepth 100000 in
theorem i147_71 : INS 147 71 = some (0, 1, 0, 2, .null, []) := rfl
set_option maxRecDepth 100000 in
theorem i147_72 : INS 147 72 = some (0, 1, 1, 0, .null, []) := rfl
set_option maxRecDepth 100000 in
theorem i147_73 : INS 147 73 = some (0, 2, 6, 0, .null, []) := rfl
set_option maxRecDepth 100000 in
theorem i147_75 : INS 147 75 = some (2, 1, 0, 0, .int 1, []) := rfl
set_option maxRecDepth 100000 in
theorem i147_76 : INS 147 76 = some (3, 1, 0, 0, .null, []) := rfl
set_option maxRecDepth 100000 in
theorem i147_77 : INS 147 77 = some (24, 3, 146, 0, .null, []) := rfl
set_option maxRecDepth 100000 in
theorem i147_80 : INS 147 80 = some (0, 1, 0, 2, .null, []) := rfl
set_option maxRecDepth 100000 in
theorem i147_81 : INS 147 81 = some (0, 1, 1, 0, .null, []) := rfl
set_option maxRecDepth 100000 in
theorem i147_82 : INS 147 82 = some (0, 2, 6, 0, .null, []) := rfl
set_option maxRecDepth 100000 in
theorem i147_84 : INS 147 84 = some (2, 1, 0, 0, .int 2, []) := rfl
set_option maxRecDepth 100000 in
theorem i147_85 : INS 147 85 = some (3, 1, 0, 0, .null, []) := rfl
set_option maxRecDepth 100000 in
theorem i147_86 : INS 147 86 = some (24, 3, 146, 0, .null, []) := rfl
set_option maxRecDepth 100000 in
theorem i147_89 : INS 147 89 = some (0, 1, 0, 2, .null, []) := rfl
set_option maxRecDepth 100000 in
theorem i147_90 : INS 147 90 = some (0, 1, 1, 0, .null, []) := rfl
set_option maxRecDepth 100000 in
theorem i147_91 : INS 147 91 = some (0, 2, 6, 0, .null, []) := rfl
set_option maxRecDepth 100000 in
theorem i147_93 : INS 147 93 = some (2, 1, 0, 0, .int 3, []) := rfl
set_option maxRecDepth 100000 in
theorem i147_94 : INS 147 94 = some (3, 1, 0, 0, .null, []) := rfl
set_option maxRecDepth 100000 in
theorem i147_95 : INS 147 95 = some (24, 3, 146, 0, .null, []) := rfl
set_option maxRecDepth 100000 in
theorem i147_98 : INS 147 98 = some (0, 1, 0, 2, .null, []) := rfl
set_option maxRecDepth 100000 in
theorem i147_99 : INS 147 99 = some (0, 1, 1, 0, .null, []) := rfl
set_option maxRecDepth 100000 in
theorem i147_100 : INS 147 100 = some (0, 2, 6, 0, .null, []) := rfl
set_option maxRecDepth 100000 in
theorem i147_102 : INS 147 102 = some (2, 1, 0, 0, .int 4, []) := rfl
set_option maxRecDepth 100000 in
theorem i147_103 : INS 147 103 = some (3, 1, 0, 0, .null, []) := rfl
set_option maxRecDepth 100000 in
theorem i147_104 : INS 147 104 = some (24, 3, 146, 0, .null, []) := rfl
set_option maxRecDepth 100000 in
theorem i147_107 : INS 147 107 = some (24, 3, 132, 0, .null, []) := rfl
set_option maxRecDepth 100000 in
theorem i147_110 : INS 147 110 = some (2, 1, 0, 0, .int 1, []) := rfl
set_option maxRecDepth 100000 in
theorem i147_111 : INS 147 111 = some (10, 3, 118, 1, .null, []) := rfl
set_option maxRecDepth 100000 in
theorem i147_114 : INS 147 114 = some (2, 1, 0, 0, .int 1, []) := rfl
set_option maxRecDepth 100000 in
theorem i147_115 : INS 147 115 = some (12, 3, 119, 0, .null, []) := rfl
set_option maxRecDepth 100000 in
theorem i147_118 : INS 147 118 = some (2, 1, 0, 0, .int 0, []) := rfl
set_option maxRecDepth 100000 in
theorem i147_119 : INS 147 119 = some (1, 2, 4, 0, .null, []) := rfl
set_option maxRecDepth 100000 in
theorem i147_121 : INS 147 121 = some (0, 2, 4, 0, .null, []) := rfl
set_option maxRecDepth 100000 in
theorem i147_123 : INS 147 123 = some (9, 3, 176, 0, .null, []) := rfl
set_option maxRecDepth 100000 in
theorem i147_126 : INS 147 126 = some (0, 1, 0, 2, .null, []) := rfl
set_option maxRecDepth 100000 in
theorem i147_127 : INS 147 127 = some (0, 1, 0, 2, .null, []) := rfl
set_option maxRecDepth 100000 in
theorem i147_128 : INS 147 128 = some (0, 1, 1, 0, .null, []) := rfl
set_option maxRecDepth 100000 in
theorem i147_129 : INS 147 129 = some (0, 2, 6, 0, .null, []) := rfl
set_option maxRecDepth 100000 in
theorem i147_131 : INS 147 131 = some (24, 3, 146, 0, .null, []) := rfl
set_option maxRecDepth 100000 in
theorem i147_134 : INS 147 134 = some (0, 1, 0, 2, .null, []) := rfl
set_option maxRecDepth 100000 in
theorem i147_135 : INS 147 135 = some (0, 1, 1, 0, .null, []) := rfl
set_option maxRecDepth 100000 in
theorem i147_136 : INS 147 136 = some (0, 2, 6, 0, .null, []) := rfl
set_option maxRecDepth 100000 in
theorem i147_138 : INS 147 138 = some (2, 1, 0, 0, .int 1, []) := rfl
set_option maxRecDepth 100000 in
theorem i147_139 : INS 147 139 = some (3, 1, 0, 0, .null, []) := rfl
set_option maxRecDepth 100000 in
theorem i147_140 : INS 147 140 = some (24, 3, 146, 0, .null, []) := rfl
set_option maxRecDepth 100000 in
theorem i147_143 : INS 147 143 = some (0, 1, 0, 2, .null, []) := rfl
set_option maxRecDepth 100000 in
theorem i147_144 : INS 147 144 = some (0, 1, 1, 0, .null, []) := rfl
set_option maxRecDepth 100000 in
theorem i147_145 : INS 147 145 = some (0, 2, 6, 0, .null, []) := rfl
set_option maxRecDepth 100000 in
theorem i147_147 : INS 147 147 = some (2, 1, 0, 0, .int 2, []) := rfl
set_option maxRecDepth 100000 in
theorem i147_148 : INS 147 148 = some (3, 1, 0, 0, .null, []) := rfl
set_option maxRecDepth 100000 in
theorem i147_149 : INS 147 149 = some (24, 3, 146, 0, .null, []) := rfl
set_option maxRecDepth 100000 in
theorem i147_152 : INS 147 152 = some (0, 1, 0, 2, .null, []) := rfl
set_option maxRecDepth 100000 in
theorem i147_153 : INS 147 153 = some (0, 1, 1, 0, .null, []) := rfl
set_option maxRecDepth 100000 in
theorem i147_154 : INS 147 154 = some (0, 2, 6, 0, .null, []) := rfl
set_option maxRecDepth 100000 in
theorem i147_156 : INS 147 156 = some (2, 1, 0, 0, .int 3, []) := rfl
set_option maxRecDepth 100000 in
theorem i147_157 : INS 147 157 = some (3, 1, 0, 0, .null, []) := rfl
set_option maxRecDepth 100000 in
theorem i147_158 : INS 147 158 = some (24, 3, 146, 0, .null, []) := rfl
set_option maxRecDepth 100000 in
theorem i147_161 : INS 147 161 = some (0, 1, 0, 2, .null, []) := rfl
set_option maxRecDepth 100000 in
theorem i147_162 : INS 147 162 = some (0, 1, 1, 0, .null, []) := rfl
set_option maxRecDepth 100000 in
theorem i147_163 : INS 147 163 = some (0, 2, 6, 0, .null, []) := rfl
set_option maxRecDepth 100000 in
theorem i147_165 : INS 147 165 = some (2, 1, 0, 0, .int 4, []) := rfl
set_option maxRecDepth 100000 in
theorem i147_166 : INS 147 166 = some (3, 1, 0, 0, .null, []) := rfl
set_option maxRecDepth 100000 in
theorem i147_167 : INS 147 167 = some (24, 3, 146, 0, .null, []) := rfl
set_option maxRecDepth 100000 in
theorem i147_170 : INS 147 170 = some (24, 3, 133, 0, .null, []) := rfl
set_option maxRecDepth 100000 in
theorem i147_173 : INS 147 173 = some (15, 3, 5, 0, .int 1, []) := rfl
set_option maxRecDepth 100000 in
theorem i147_176 : INS 147 176 = some (12, 3, 46, 0, .null, []) := rfl
set_option maxRecDepth 100000 in
theorem i147_179 : INS 147 179 = some (2, 1, 0, 0, .int 0, []) := rfl
set_option maxRecDepth 100000 in
theorem i147_180 : INS 147 180 = some (1, 2, 6, 0, .null, []) := rfl
set_option maxRecDepth 100000 in
theorem i147_182 : INS 147 182 = some (0, 2, 6, 0, .null, []) := rfl
set_option maxRecDepth 100000 in
theorem i147_184 : INS 147 184 = some (0, 2, 5, 0, .null, []) := rfl
set_option maxRecDepth 100000 in
theorem i147_186 : INS 147 186 = some (10, 3, 215, 3, .null, []) := rfl
set_option maxRecDepth 100000 in
theorem i147_189 : INS 147 189 = some (0, 2, 4, 0, .null, []) := rfl
set_option maxRecDepth 100000 in
theorem i147_191 : INS 147 191 = some (9, 3, 215, 1, .null, []) := rfl
set_option maxRecDepth 100000 in
theorem i147_194 : INS 147 194 = some (0, 1, 0, 2, .null, []) := rfl
set_option maxRecDepth 100000 in
theorem i147_195 : INS 147 195 = some (16, 3, 11, 8, .null, []) := rfl
set_option maxRecDepth 100000 in
theorem i147_198 : INS 147 198 = some (0, 1, 0, 2, .null, []) := rfl
set_option maxRecDepth 100000 in
theorem i147_199 : INS 147 199 = some (0, 1, 1, 0, .null, []) := rfl
set_option maxRecDepth 100000 in
theorem i147_200 : INS 147 200 = some (2, 1, 0, 0, .int 5, []) := rfl
set_option maxRecDepth 100000 in
theorem i147_201 : INS 147 201 = some (0, 2, 6, 0, .null, []) := rfl
set_option maxRecDepth 100000 in
theorem i147_203 : INS 147 203 = some (3, 1, 2, 0, .null, []) := rfl
set_option maxRecDepth 100000 in
theorem i147_204 : INS 147 204 = some (24, 3, 146, 0, .null, []) := rfl
set_option maxRecDepth 100000 in
theorem i147_207 : INS 147 207 = some (2, 1, 0, 0, .int 0, []) := rfl
set_option maxRecDepth 100000 in
theorem i147_208 : INS 147 208 = some (19, 1, 20, 0, .null, []) := rfl
set_option maxRecDepth 100000 in
theorem i147_209 : INS 147 209 = some (15, 3, 6, 0, .int 1, []) := rfl
set_option maxRecDepth 100000 in
theorem i147_212 : INS 147 212 = some (12, 3, 182, 0, .null, []) := rfl
set_option maxRecDepth 100000 in
theorem i147_215 : INS 147 215 = some (0, 2, 4, 0, .null, []) := rfl
set_option maxRecDepth 100000 in
theorem i147_217 : INS 147 217 = some (9, 3, 224, 0, .null, []) := rfl
set_option maxRecDepth 100000 in
theorem i147_220 : INS 147 220 = some (0, 1, 3, 0, .null, []) := rfl
set_option maxRecDepth 100000 in
theorem i147_221 : INS 147 221 = some (12, 3, 230, 0, .null, []) := rfl
set_option maxRecDepth 100000 in
theorem i147_224 : INS 147 224 = some (0, 1, 0, 2, .null, []) := rfl
set_option maxRecDepth 100000 in
theorem i147_225 : INS 147 225 = some (2, 2, 0, 0, .int (-6), []) := rfl
set_option maxRecDepth 100000 in
theorem i147_227 : INS 147 227 = some (24, 3, 124, 0, .null, []) := rfl
set_option maxRecDepth 100000 in
theorem i147_230 : INS 147 230 = some (27, 1, 0, 0, .null, []) := rfl
set_option maxRecDepth 100000 in
theorem i148_0 : INS 148 0 = some (0, 1, 1, 0, .null, []) := rfl
set_option maxRecDepth 100000 in
theorem i148_1 : INS 148 1 = some (24, 3, 136, 2, .null, []) := rfl
set_option maxRecDepth 100000 in
theorem i148_4 : INS 148 4 = some (9, 3, 14, 0, .null, []) := rfl
set_option maxRecDepth 100000 in
theorem i148_7 : INS 148 7 = some (0, 1, 2, 0, .null, []) := rfl
set_option maxRecDepth 100000 in
theorem i148_8 : INS 148 8 = some (24, 3, 125, 2, .null, []) := rfl
set_option maxRecDepth 100000 in
theorem i148_11 : INS 148 11 = some (9, 3, 20, 1, .null, []) := rfl
set_option maxRecDepth 100000 in
theorem i148_14 : INS 148 14 = some (0, 1, 0, 2, .null, []) := rfl
set_option maxRecDepth 100000 in
theorem i148_15 : INS 148 15 = some (2, 1, 0, 0, .int (-1), []) := rfl
set_option maxRecDepth 100000 in
theorem i148_16 : INS 148 16 = some (24, 3, 124, 0, .null, []) := rfl
set_option maxRecDepth 100000 in
theorem i148_19 : INS 148 19 = some (27, 1, 0, 0, .null, []) := rfl
set_option maxRecDepth 100000 in
theorem i148_20 : INS 148 20 = some (0, 1, 3, 0, .null, []) := rfl
set_option maxRecDepth 100000 in
theorem i148_21 : INS 148 21 = some (9, 3, 29, 2, .null, []) := rfl
set_option maxRecDepth 100000 in
theorem i148_24 : INS 148 24 = some (0, 2, 4, 0, .null, []) := rfl
set_option maxRecDepth 100000 in
theorem i148_26 : INS 148 26 = some (9, 3, 36, 3, .null, []) := rfl
set_option maxRecDepth 100000 in
theorem i148_29 : INS 148 29 = some (0, 1, 0, 2, .null, []) := rfl
set_option maxRecDepth 100000 in
theorem i148_30 : INS 148 30 = some (2, 2, 0, 0, .int (-4), []) := rfl
set_option maxRecDepth 100000 in
theorem i148_32 : INS 148 32 = some (24, 3, 124, 0, .null, []) := rfl
set_option maxRecDepth 100000 in
theorem i148_35 : INS 148 35 = some (27, 1, 0, 0, .null, []) := rfl
set_option maxRecDepth 100000 in
theorem i148_36 : INS 148 36 = some (0, 1, 3, 0, .null, []) := rfl
set_option maxRecDepth 100000 in
theorem i148_37 : INS 148 37 = some (9, 3, 68, 0, .null, []) := rfl
set_option maxRecDepth 100000 in
theorem i148_40 : INS 148 40 = some (0, 2, 4, 0, .null, []) := rfl
set_option maxRecDepth 100000 in
theorem i148_42 : INS 148 42 = some (9, 3, 68, 0, .null, []) := rfl
set_option maxRecDepth 100000 in
theorem i148_45 : INS 148 45 = some (0, 1, 3, 0, .null, []) := rfl
set_option maxRecDepth 100000 in
theorem i148_46 : INS 148 46 = some (2, 2, 0, 0, .int 12, []) := rfl
set_option maxRecDepth 100000 in
theorem i148_48 : INS 148 48 = some (0, 1, 2, 0, .null, []) := rfl
set_option maxRecDepth 100000 in
theorem i148_49 : INS 148 49 = some (2, 2, 0, 0, .int 12, []) := rfl
set_option maxRecDepth 100000 in
theorem i148_51 : INS 148 51 = some (3, 1, 4, 0, .null, []) := rfl
set_option maxRecDepth 100000 in
theorem i148_52 : INS 148 52 = some (3, 1, 1, 0, .null, []) := rfl
set_option maxRecDepth 100000 in
theorem i148_53 : INS 148 53 = some (10, 3, 68, 4, .null, []) := rfl
set_option maxRecDepth 100000 in
theorem i148_56 : INS 148 56 = some (0, 2, 4, 0, .null, []) := rfl
set_option maxRecDepth 100000 in
theorem i148_58 : INS 148 58 = some (2, 2, 0, 0, .int 12, []) := rfl
set_option maxRecDepth 100000 in
theorem i148_60 : INS 148 60 = some (0, 1, 2, 0, .null, []) := rfl
set_option maxRecDepth 100000 in
theorem i148_61 : INS 148 61 = some (2, 2, 0, 0, .int 12, []) := rfl
set_option maxRecDepth 100000 in
theorem i148_63 : INS 148 63 = some (3, 1, 3, 0, .null, []) := rfl
set_option maxRecDepth 100000 in
theorem i148_64 : INS 148 64 = some (3, 1, 1, 0, .null, []) := rfl
set_option maxRecDepth 100000 in
theorem i148_65 : INS 148 65 = some (10, 3, 75, 5, .null, []) := rfl
set_option maxRecDepth 100000 in
theorem i148_68 : INS 148 68 = some (0, 1, 0, 2, .null, []) := rfl
set_option maxRecDepth 100000 in
theorem i148_69 : INS 148 69 = some (2, 2, 0, 0, .int (-6), []) := rfl
set_option maxRecDepth 100000 in
theorem i148_71 : INS 148 71 = some (24, 3, 124, 0, .null, []) := rfl
set_option maxRecDepth 100000 in
theorem i148_74 : INS 148 74 = some (27, 1, 0, 0, .null, []) := rfl
set_option maxRecDepth 100000 in
theorem i148_75 : INS 148 75 = some (0, 1, 0, 2, .null, []) := rfl
set_option maxRecDepth 100000 in
theorem i148_76 : INS 148 76 = some (16, 3, 11, 24, .null, []) := rfl
set_option maxRecDepth 100000 in
theorem i148_79 : INS 148 79 = some (0, 1, 1, 0, .null, []) := rfl
set_option maxRecDepth 100000 in
theorem i148_80 : INS 148 80 = some (2, 1, 0, 0, .int 0, []) := rfl
set_option maxRecDepth 100000 in
theorem i148_81 : INS 148 81 = some (19, 1, 20, 0, .null, []) := rfl
set_option maxRecDepth 100000 in
theorem i148_82 : INS 148 82 = some (0, 1, 0, 2, .null, []) := rfl
set_option maxRecDepth 100000 in
theorem i148_83 : INS 148 83 = some (16, 3, 11, 28, .null, []) := rfl
set_option maxRecDepth 100000 in
theorem i148_86 : INS 148 86 = some (0, 1, 1, 0, .null, []) := rfl
set_option maxRecDepth 100000 in
theorem i148_87 : INS 148 87 = some (0, 1, 3, 0, .null, []) := rfl
set_option maxRecDepth 100000 in
theorem i148_88 : INS 148 88 = some (19, 1, 20, 0, .null, []) := rfl
set_option maxRecDepth 100000 in
theorem i148_89 : INS 148 89 = some (0, 1, 0, 2, .null, []) := rfl
set_option maxRecDepth 100000 in
theorem i148_90 : INS 148 90 = some (16, 3, 11, 29, .null, []) := rfl
set_option maxRecDepth 100000 in
theorem i148_93 : INS 148 93 = some (0, 1, 1, 0, .null, []) := rfl
set_option maxRecDepth 100000 in
theorem i148_94 : INS 148 94 = some (0, 2, 4, 0, .null, []) := rfl
set_option maxRecDepth 100000 in
theorem i148_96 : INS 148 96 = some (19, 1, 20, 0, .null, []) := rfl
set_option maxRecDepth 100000 in
theorem i148_97 : INS 148 97 = some (2, 1, 0, 0, .int 0, []) := rfl
set_option maxRecDepth 100000 in
theorem i148_98 : INS 148 98 = some (1, 2, 5, 0, .null, []) := rfl
set_option maxRecDepth 100000 in
theorem i148_100 : INS 148 100 = some (0, 2, 5, 0, .null, []) := rfl
set_option maxRecDepth 100000 in
theorem i148_102 : INS 148 102 = some (0, 1, 3, 0, .null, []) := rfl
set_option maxRecDepth 100000 in
theorem i148_103 : INS 148 103 = some (0, 2, 4, 0, .null, []) := rfl
set_option maxRecDepth 100000 in
theorem i148_105 : INS 148 105 = some (3, 1, 2, 0, .null, []) := rfl
set_option maxRecDepth 100000 in
theorem i148_106 : INS 148 106 = some (10, 3, 205, 3, .null, []) := rfl
set_option maxRecDepth 100000 in
theorem i148_109 : INS 148 109 = some (0, 1, 2, 0, .null, []) := rfl
set_option maxRecDepth 100000 in
theorem i148_110 : INS 148 110 = some (2, 2, 0, 0, .int 12, []) := rfl
set_option maxRecDepth 100000 in
theorem i148_112 : INS 148 112 = some (0, 2, 5, 0, .null, []) := rfl
set_option maxRecDepth 100000 in
theorem i148_114 : INS 148 114 = some (0, 1, 3, 0, .null, []) := rfl
set_option maxRecDepth 100000 in
theorem i148_115 : INS 148 115 = some (3, 1, 3, 0, .null, []) := rfl
set_option maxRecDepth 100000 in
theorem i148_116 : INS 148 116 = some (3, 1, 2, 0, .null, []) := rfl
set_option maxRecDepth 100000 in
theorem i148_117 : INS 148 117 = some (3, 1, 0, 0, .null, []) := rfl
set_option maxRecDepth 100000 in
theorem i148_118 : INS 148 118 = some (0, 2, 5, 0, .null, []) := rfl
set_option maxRecDepth 100000 in
theorem i148_120 : INS 148 120 = some (0, 1, 3, 0, .null, []) := rfl
set_option maxRecDepth 100000 in
theorem i148_121 : INS 148 121 = some (3, 1, 4, 0, .null, []) := rfl
set_option maxRecDepth 100000 in
theorem i148_122 : INS 148 122 = some (3, 1, 0, 0, .null, []) := rfl
set_option maxRecDepth 100000 in
theorem i148_123 : INS 148 123 = some (1, 2, 6, 0, .null, []) := rfl
set_option maxRecDepth 100000 in
theorem i148_125 : INS 148 125 = some (2, 3, 0, 0, .int 576, []) := rfl
set_option maxRecDepth 100000 in
theorem i148_128 : INS 148 128 = some (0, 1, 1, 0, .null, []) := rfl
set_option maxRecDepth 100000 in
theorem i148_129 : INS 148 129 = some (3, 1, 2, 0, .null, []) := rfl
set_option maxRecDepth 100000 in
theorem i148_130 : INS 148 130 = some (2, 1, 0, 0, .int 4, []) := rfl
set_option maxRecDepth 100000 in
theorem i148_131 : INS 148 131 = some (0, 2, 5, 0, .null, []) := rfl
set_option maxRecDepth 100000 in
theorem i148_133 : INS 148 133 = some (3, 1, 2, 0, .null, []) := rfl
set_option maxRecDepth 100000 in
theorem i148_134 : INS 148 134 = some (3, 1, 0, 0, .null, []) := rfl
set_option maxRecDepth 100000 in
theorem i148_135 : INS 148 135 = some (1, 2, 7, 0, .null, []) := rfl
set_option maxRecDepth 100000 in
theorem i148_137 : INS 148 137 = some (0, 1, 0, 2, .null, []) := rfl
set_option maxRecDepth 100000 in
theorem i148_138 : INS 148 138 = some (16, 3, 11, 30, .null, []) := rfl
set_option maxRecDepth 100000 in
theorem i148_141 : INS 148 141 = some (0, 2, 7, 0, .null, []) := rfl
set_option maxRecDepth 100000 in
theorem i148_143 : INS 148 143 = some (0, 1, 0, 2, .null, []) := rfl
set_option maxRecDepth 100000 in
theorem i148_144 : INS 148 144 = some (16, 3, 11, 8, .null, []) := rfl
set_option maxRecDepth 100000 in
theorem i148_147 : INS 148 147 = some (0, 2, 6, 0, .null, []) := rfl
set_option maxRecDepth 100000 in
theorem i148_149 : INS 148 149 = some (18, 1, 20, 0, .null, []) := rfl
set_option maxRecDepth 100000 in
theorem i148_150 : INS 148 150 = some (19, 1, 20, 0, .null, []) := rfl
set_option maxRecDepth 100000 in
theorem i148_151 : INS 148 151 = some (0, 1, 0, 2, .null, []) := rfl
set_option maxRecDepth 100000 in
theorem i148_152 : INS 148 152 = some (16, 3, 11, 30, .null, []) := rfl
set_option maxRecDepth 100000 in
theorem i148_155 : INS 148 155 = some (0, 2, 7, 0, .null, []) := rfl
set_option maxRecDepth 100000 in
theorem i148_157 : INS 148 157 = some (2, 1, 0, 0, .int 1, []) := rfl
set_option maxRecDepth 100000 in
theorem i148_158 : INS 148 158 = some (3, 1, 0, 0, .null, []) := rfl
set_option maxRecDepth 100000 in
theorem i148_159 : INS 148 159 = some (0, 1, 0, 2, .null, []) := rfl
set_option maxRecDepth 100000 in
theorem i148_160 : INS 148 160 = some (16, 3, 11, 9, .null, []) := rfl
set_option maxRecDepth 100000 in
theorem i148_163 : INS 148 163 = some (0, 2, 6, 0, .null, []) := rfl
set_option maxRecDepth 100000 in
theorem i148_165 : INS 148 165 = some (18, 1, 20, 0, .null, []) := rfl
set_option maxRecDepth 100000 in
theorem i148_166 : INS 148 166 = some (19, 1, 20, 0, .null, []) := rfl
set_option maxRecDepth 100000 in
theorem i148_167 : INS 148 167 = some (0, 1, 0, 2, .null, []) := rfl
set_option maxRecDepth 100000 in
theorem i148_168 : INS 148 168 = some (16, 3, 11, 30, .null, []) := rfl
set_option maxRecDepth 100000 in
theorem i148_171 : INS 148 171 = some (0, 2, 7, 0, .null, []) := rfl
set_option maxRecDepth 100000 in
theorem i148_173 : INS 148 173 = some (2, 1, 0, 0, .int 2, []) := rfl
set_option maxRecDepth 100000 in
theorem i148_174 : INS 148 174 = some (3, 1, 0, 0, .null, []) := rfl
set_option maxRecDepth 100000 in
theorem i148_175 : INS 148 175 = some (0, 1, 0, 2, .null, []) := rfl
set_option maxRecDepth 100000 in
theorem i148_176 : INS 148 176 = some (16, 3, 11, 10, .null, []) := rfl
set_option maxRecDepth 100000 in
theorem i148_179 : INS 148 179 = some (0, 2, 6, 0, .null, []) := rfl
set_option maxRecDepth 100000 in
theorem i148_181 : INS 148 181 = some (18, 1, 20, 0, .null, []) := rfl
set_option maxRecDepth 100000 in
theorem i148_182 : INS 148 182 = some (19, 1, 20, 0, .null, []) := rfl
set_option maxRecDepth 100000 in
theorem i148_183 : INS 148 183 = some (0, 1, 0, 2, .null, []) := rfl
set_option maxRecDepth 100000 in
theorem i148_184 : INS 148 184 = some (16, 3, 11, 30, .null, []) := rfl
set_option maxRecDepth 100000 in
theorem i148_187 : INS 148 187 = some (0, 2, 7, 0, .null, []) := rfl
set_option maxRecDepth 100000 in
theorem i148_189 : INS 148 189 = some (2, 1, 0, 0, .int 3, []) := rfl
set_option maxRecDepth 100000 in
theorem i148_190 : INS 148 190 = some (3, 1, 0, 0, .null, []) := rfl
set_option maxRecDepth 100000 in
theorem i148_191 : INS 148 191 = some (0, 1, 0, 2, .null, []) := rfl
set_option maxRecDepth 100000 in
theorem i148_192 : INS 148 192 = some (16, 3, 11, 11, .null, []) := rfl
set_option maxRecDepth 100000 in
theorem i148_195 : INS 148 195 = some (0, 2, 6, 0, .null, []) := rfl
set_option maxRecDepth 100000 in
theorem i148_197 : INS 148 197 = some (18, 1, 20, 0, .null, []) := rfl
set_option maxRecDepth 100000 in
theorem i148_198 : INS 148 198 = some (19, 1, 20, 0, .null, []) := rfl
set_option maxRecDepth 100000 in
theorem i148_199 : INS 148 199 = some (15, 3, 5, 0, .int 1, []) := rfl
set_option maxRecDepth 100000 in
theorem i148_202 : INS 148 202 = some (12, 3, 100, 0, .null, []) := rfl
set_option maxRecDepth 100000 in
theorem i148_205 : INS 148 205 = some (0, 1, 0, 2, .null, []) := rfl
set_option maxRecDepth 100000 in
theorem i148_206 : INS 148 206 = some (0, 1, 1, 0, .null, []) := rfl
set_option maxRecDepth 100000 in
theorem i148_207 : INS 148 207 = some (24, 3, 149, 0, .null, []) := rfl
set_option maxRecDepth 100000 in
theorem i148_210 : INS 148 210 = some (27, 1, 0, 0, .null, []) := rfl
set_option maxRecDepth 100000 in
theorem i149_0 : INS 149 0 = some (2, 1, 0, 0, .int 0, []) := rfl
set_option maxRecDepth 100000 in
theorem i149_1 : INS 149 1 = some (1, 1, 2, 0, .null, []) := rfl
set_option maxRecDepth 100000 in
theorem i149_2 : INS 149 2 = some (2, 1, 0, 0, .int 0, []) := rfl
set_option maxRecDepth 100000 in
theorem i149_3 : INS 149 3 = some (1, 1, 3, 0, .null, []) := rfl
set_option maxRecDepth 100000 in
theorem i149_4 : INS 149 4 = some (0, 1, 3, 0, .null, []) := rfl
set_option maxRecDepth 100000 in
theorem i149_5 : INS 149 5 = some (0, 1, 0, 2, .null, []) := rfl
set_option maxRecDepth 100000 in
theorem i149_6 : INS 149 6 = some (16, 3, 11, 28, .null, []) := rfl
set_option maxRecDepth 100000 in
theorem i149_9 : INS 149 9 = some (0, 1, 1, 0, .null, []) := rfl
set_option maxRecDepth 100000 in
theorem i149_10 : INS 149 10 = some (18, 1, 20, 0, .null, []) := rfl
set_option maxRecDepth 100000 in
theorem i149_11 : INS 149 11 = some (0, 1, 0, 2, .null, []) := rfl
set_option maxRecDepth 100000 in
theorem i149_12 : INS 149 12 = some (16, 3, 11, 29, .null, []) := rfl
set_option maxRecDepth 100000 in
theorem i149_15 : INS 149 15 = some (0, 1, 1, 0, .null, []) := rfl
set_option maxRecDepth 100000 in
theorem i149_16 : INS 149 16 = some (18, 1, 20, 0, .null, []) := rfl
set_option maxRecDepth 100000 in
theorem i149_17 : INS 149 17 = some (3, 1, 2, 0, .null, []) := rfl
set_option maxRecDepth 100000 in
theorem i149_18 : INS 149 18 = some (10, 3, 52, 3, .null, []) := rfl
set_option maxRecDepth 100000 in
theorem i149_21 : INS 149 21 = some (0, 1, 2, 0, .null, []) := rfl
set_option maxRecDepth 100000 in
theorem i149_22 : INS 149 22 = some (0, 1, 0, 2, .null, []) := rfl
set_option maxRecDepth 100000 in
theorem i149_23 : INS 149 23 = some (16, 3, 11, 30, .null, []) := rfl
set_option maxRecDepth 100000 in
theorem i149_26 : INS 149 26 = some (2, 3, 0, 0, .int 576, []) := rfl
set_option maxRecDepth 100000 in
theorem i149_29 : INS 149 29 = some (0, 1, 1, 0, .null, []) := rfl
set_option maxRecDepth 100000 in
theorem i149_30 : INS 149 30 = some (3, 1, 2, 0, .null, []) := rfl
set_option maxRecDepth 100000 in
theorem i149_31 : INS 149 31 = some (2, 1, 0, 0, .int 4, []) := rfl
set_option maxRecDepth 100000 in
theorem i149_32 : INS 149 32 = some (0, 1, 3, 0, .null, []) := rfl
set_option maxRecDepth 100000 in
theorem i149_33 : INS 149 33 = some (3, 1, 2, 0, .null, []) := rfl
set_option maxRecDepth 100000 in
theorem i149_34 : INS 149 34 = some (3, 1, 0, 0, .null, []) := rfl
set_option maxRecDepth 100000 in
theorem i149_35 : INS 149 35 = some (18, 1, 20, 0, .null, []) := rfl
set_option maxRecDepth 100000 in
theorem i149_36 : INS 149 36 = some (9, 3, 43, 0, .null, []) := rfl
set_option maxRecDepth 100000 in
theorem i149_39 : INS 149 39 = some (2, 1, 0, 0, .int 1, []) := rfl
set_option maxRecDepth 100000 in
theorem i149_40 : INS 149 40 = some (12, 3, 44, 0, .null, []) := rfl
set_option maxRecDepth 100000 in
theorem i149_43 : INS 149 43 = some (2, 1, 0, 0, .int 0, []) := rfl
set_option maxRecDepth 100000 in
theorem i149_44 : INS 149 44 = some (3, 1, 0, 0, .null, []) := rfl
set_option maxRecDepth 100000 in
theorem i149_45 : INS 149 45 = some (1, 1, 2, 0, .null, []) := rfl
set_option maxRecDepth 100000 in
theorem i149_46 : INS 149 46 = some (15, 3, 3, 0, .int 1, []) := rfl
set_option maxRecDepth 100000 in
theorem i149_49 : INS 149 49 = some (12, 3, 4, 0, .null, []) := rfl
set_option maxRecDepth 100000 in
theorem i149_52 : INS 149 52 = some (0, 1, 2, 0, .null, []) := rfl
set_option maxRecDepth 100000 in
theorem i149_53 : INS 149 53 = some (27, 1, 0, 0, .null, []) := rfl
set_option maxRecDepth 100000 in
theorem i151_0 : INS 151 0 = some (0, 1, 0, 2, .null, []) := rfl
set_option maxRecDepth 100000 in
theorem i151_1 : INS 151 1 = some (16, 3, 11, 28, .null, []) := rfl
set_option maxRecDepth 100000 in
theorem i151_4 : INS 151 4 = some (0, 1, 1, 0, .null, []) := rfl
set_option maxRecDepth 100000 in
theorem i151_5 : INS 151 5 = some (18, 1, 20, 0, .null, []) := rfl
set_option maxRecDepth 100000 in
theorem i151_6 : INS 151 6 = some (1, 2, 5, 0, .null, []) := rfl
set_option maxRecDepth 100000 in
theorem i151_8 : INS 151 8 = some (0, 1, 0, 2, .null, []) := rfl
set_option maxRecDepth 100000 in
theorem i151_9 : INS 151 9 = some (16, 3, 11, 29, .null, []) := rfl
set_option maxRecDepth 100000 in
theorem i151_12 : INS 151 12 = some (0, 1, 1, 0, .null, []) := rfl
set_option maxRecDepth 100000 in
theorem i151_13 : INS 151 13 = some (18, 1, 20, 0, .null, []) := rfl
set_option maxRecDepth 100000 in
theorem i151_14 : INS 151 14 = some (1, 2, 6, 0, .null, []) := rfl
set_option maxRecDepth 100000 in
theorem i151_16 : INS 151 16 = some (0, 1, 2, 0, .null, []) := rfl
set_option maxRecDepth 100000 in
theorem i151_17 : INS 151 17 = some (0, 2, 5, 0, .null, []) := rfl
set_option maxRecDepth 100000 in
theorem i151_19 : INS 151 19 = some (3, 1, 4, 0, .null, []) := rfl
set_option maxRecDepth 100000 in
theorem i151_20 : INS 151 20 = some (1, 2, 7, 0, .null, []) := rfl
set_option maxRecDepth 100000 in
theorem i151_22 : INS 151 22 = some (0, 1, 2, 0, .null, []) := rfl
set_option maxRecDepth 100000 in
theorem i151_23 : INS 151 23 = some (0, 2, 5, 0, .null, []) := rfl
set_option maxRecDepth 100000 in
theorem i151_25 : INS 151 25 = some (3, 1, 3, 0, .null, []) := rfl
set_option maxRecDepth 100000 in
theorem i151_26 : INS 151 26 = some (1, 2, 8, 0, .null, []) := rfl
set_option maxRecDepth 100000 in
theorem i151_28 : INS 151 28 = some (2, 1, 0, 0, .int 0, []) := rfl
set_option maxRecDepth 100000 in
theorem i151_29 : INS 151 29 = some (1, 2, 9, 0, .null, []) := rfl
set_option maxRecDepth 100000 in
theorem i151_31 : INS 151 31 = some (0, 2, 9, 0, .null, []) := rfl
set_option maxRecDepth 100000 in
theorem i151_33 : INS 151 33 = some (0, 2, 4, 0, .null, []) := rfl
set_option maxRecDepth 100000 in
theorem i151_35 : INS 151 35 = some (10, 3, 73, 3, .null, []) := rfl
set_option maxRecDepth 100000 in
theorem i151_38 : INS 151 38 = some (0, 2, 6, 0, .null, []) := rfl
set_option maxRecDepth 100000 in
theorem i151_40 : INS 151 40 = some (2, 1, 0, 0, .int 1, []) := rfl
set_option maxRecDepth 100000 in
theorem i151_41 : INS 151 41 = some (3, 1, 1, 0, .null, []) := rfl
set_option maxRecDepth 100000 in
theorem i151_42 : INS 151 42 = some (0, 2, 8, 0, .null, []) := rfl
set_option maxRecDepth 100000 in
theorem i151_44 : INS 151 44 = some (3, 1, 1, 0, .null, []) := rfl
set_option maxRecDepth 100000 in
theorem i151_45 : INS 151 45 = some (1, 2, 10, 0, .null, []) := rfl
set_option maxRecDepth 100000 in
theorem i151_47 : INS 151 47 = some (0, 2, 7, 0, .null, []) := rfl
set_option maxRecDepth 100000 in
theorem i151_49 : INS 151 49 = some (1, 2, 8, 0, .null, []) := rfl
set_option maxRecDepth 100000 in
theorem i151_51 : INS 151 51 = some (0, 2, 10, 0, .null, []) := rfl
set_option maxRecDepth 100000 in
theorem i151_53 : INS 151 53 = some (1, 2, 7, 0, .null, []) := rfl
set_option maxRecDepth 100000 in
theorem i151_55 : INS 151 55 = some (0, 2, 5, 0, .null, []) := rfl
set_option maxRecDepth 100000 in
theorem i151_57 : INS 151 57 = some (1, 2, 11, 0, .null, []) := rfl
set_option maxRecDepth 100000 in
theorem i151_59 : INS 151 59 = some (0, 2, 6, 0, .null, []) := rfl
set_option maxRecDepth 100000 in
theorem i151_61 : INS 151 61 = some (1, 2, 5, 0, .null, []) := rfl
set_option maxRecDepth 100000 in
theorem i151_63 : INS 151 63 = some (0, 2, 11, 0, .null, []) := rfl
set_option maxRecDepth 100000 in
theorem i151_65 : INS 151 65 = some (1, 2, 6, 0, .null, []) := rfl
set_option maxRecDepth 100000 in
theorem i151_67 : INS 151 67 = some (15, 3, 9, 0, .int 1, []) := rfl
set_option maxRecDepth 100000 in
theorem i151_70 : INS 151 70 = some (12, 3, 31, 0, .null, []) := rfl
set_option maxRecDepth 100000 in
theorem i151_73 : INS 151 73 = some (0, 1, 3, 0, .null, []) := rfl
set_option maxRecDepth 100000 in
theorem i151_74 : INS 151 74 = some (2, 2, 0, 0, .int 12, []) := rfl
set_option maxRecDepth 100000 in
theorem i151_76 : INS 151 76 = some (0, 2, 8, 0, .null, []) := rfl
set_option maxRecDepth 100000 in
theorem i151_78 : INS 151 78 = some (3, 1, 2, 0, .null, []) := rfl
set_option maxRecDepth 100000 in
theorem i151_79 : INS 151 79 = some (3, 1, 0, 0, .null, []) := rfl
set_option maxRecDepth 100000 in
theorem i151_80 : INS 151 80 = some (0, 2, 7, 0, .null, []) := rfl
set_option maxRecDepth 100000 in
theorem i151_82 : INS 151 82 = some (3, 1, 0, 0, .null, []) := rfl
set_option maxRecDepth 100000 in
theorem i151_83 : INS 151 83 = some (27, 1, 0, 0, .null, []) := rfl
set_option maxRecDepth 100000 in
theorem i152_0 : INS 152 0 = some (0, 1, 0, 2, .null, []) := rfl
set_option maxRecDepth 100000 in
theorem i152_1 : INS 152 1 = some (0, 1, 1, 0, .null, []) := rfl
set_option maxRecDepth 100000 in
theorem i152_2 : INS 152 2 = some (24, 3, 137, 0, .null, []) := rfl
set_option maxRecDepth 100000 in
theorem i152_5 : INS 152 5 = some (9, 3, 13, 0, .null, []) := rfl
set_option maxRecDepth 100000 in
theorem i152_8 : INS 152 8 = some (2, 2, 0, 0, .int (-2), []) := rfl
set_option maxRecDepth 100000 in
theorem i152_10 : INS 152 10 = some (12, 3, 29, 0, .null, []) := rfl
set_option maxRecDepth 100000 in
theorem i152_13 : INS 152 13 = some (0, 1, 0, 2, .null, []) := rfl
set_option maxRecDepth 100000 in
theorem i152_14 : INS 152 14 = some (16, 3, 11, 24, .null, []) := rfl
set_option maxRecDepth 100000 in
theorem i152_17 : INS 152 17 = some (0, 1, 1, 0, .null, []) := rfl
set_option maxRecDepth 100000 in
theorem i152_18 : INS 152 18 = some (18, 1, 20, 0, .null, []) := rfl
set_option maxRecDepth 100000 in
theorem i152_19 : INS 152 19 = some (2, 1, 0, 0, .int (-1), []) := rfl
set_option maxRecDepth 100000 in
theorem i152_20 : INS 152 20 = some (10, 3, 28, 1, .null, []) := rfl
set_option maxRecDepth 100000 in
theorem i152_23 : INS 152 23 = some (2, 2, 0, 0, .int (-3), []) := rfl
set_option maxRecDepth 100000 in
theorem i152_25 : INS 152 25 = some (12, 3, 29, 0, .null, []) := rfl
set_option maxRecDepth 100000 in
theorem i152_28 : INS 152 28 = some (2, 1, 0, 0, .int 0, []) := rfl
set_option maxRecDepth 100000 in
theorem i152_29 : INS 152 29 = some (27, 1, 0, 0, .null, []) := rfl
set_option maxRecDepth 100000 in
theorem i153_0 : INS 153 0 = some (0, 1, 1, 0, .null, []) := rfl
set_option maxRecDepth 100000 in
theorem i153_1 : INS 153 1 = some (24, 3, 136, 2, .null, []) := rfl
set_option maxRecDepth 100000 in
theorem i153_4 : INS 153 4 = some (9, 3, 14, 0, .null, []) := rfl
set_option maxRecDepth 100000 in
theorem i153_7 : INS 153 7 = some (0, 1, 2, 0, .null, []) := rfl
set_option maxRecDepth 100000 in
theorem i153_8 : INS 153 8 = some (24, 3, 125, 2, .null, []) := rfl
set_option maxRecDepth 100000 in
theorem i153_11 : INS 153 11 = some (9, 3, 20, 1, .null, []) := rfl
set_option maxRecDepth 100000 in
theorem i153_14 : INS 153 14 = some (0, 1, 0, 2, .null, []) := rfl
set_option maxRecDepth 100000 in
theorem i153_15 : INS 153 15 = some (2, 1, 0, 0, .int (-1), []) := rfl
set_option maxRecDepth 100000 in
theorem i153_16 : INS 153 16 = some (24, 3, 124, 0, .null, []) := rfl
set_option maxRecDepth 100000 in
theorem i153_19 : INS 153 19 = some (27, 1, 0, 0, .null, []) := rfl
set_option maxRecDepth 100000 in
theorem i153_20 : INS 153 20 = some (0, 1, 0, 2, .null, []) := rfl
set_option maxRecDepth 100000 in
theorem i153_21 : INS 153 21 = some (0, 1, 1, 0, .null, []) := rfl
set_option maxRecDepth 100000 in
theorem i153_22 : INS 153 22 = some (24, 3, 152, 0, .null, []) := rfl
set_option maxRecDepth 100000 in
theorem i153_25 : INS 153 25 = some (1, 2, 4, 0, .null, []) := rfl
set_option maxRecDepth 100000 in
theorem i153_27 : INS 153 27 = some (0, 2, 4, 0, .null, []) := rfl
set_option maxRecDepth 100000 in
theorem i153_29 : INS 153 29 = some (9, 3, 39, 0, .null, []) := rfl
set_option maxRecDepth 100000 in
theorem i153_32 : INS 153 32 = some (0, 1, 0, 2, .null, []) := rfl
set_option maxRecDepth 100000 in
theorem i153_33 : INS 153 33 = some (0, 2, 4, 0, .null, []) := rfl
set_option maxRecDepth 100000 in
theorem i153_35 : INS 153 35 = some (24, 3, 124, 0, .null, []) := rfl
set_option maxRecDepth 100000 in
theorem i153_38 : INS 153 38 = some (27, 1, 0, 0, .null, []) := rfl
set_option maxRecDepth 100000 in
theorem i153_39 : INS 153 39 = some (0, 1, 3, 0, .null, []) := rfl
set_option maxRecDepth 100000 in
theorem i153_40 : INS 153 40 = some (2, 1, 0, 0, .int 0, []) := rfl
set_option maxRecDepth 100000 in
theorem i153_41 : INS 153 41 = some (2, 1, 0, 0, .int 3, []) := rfl
set_option maxRecDepth 100000 in
theorem i153_42 : INS 153 42 = some (24, 3, 123, 2, .null, []) := rfl
set_option maxRecDepth 100000 in
theorem i153_45 : INS 153 45 = some (9, 3, 55, 1, .null, []) := rfl
set_option maxRecDepth 100000 in
theorem i153_48 : INS 153 48 = some (0, 1, 0, 2, .null, []) := rfl
set_option maxRecDepth 100000 in
theorem i153_49 : INS 153 49 = some (2, 2, 0, 0, .int (-6), []) := rfl
set_option maxRecDepth 100000 in
theorem i153_51 : INS 153 51 = some (24, 3, 124, 0, .null, []) := rfl
set_option maxRecDepth 100000 in
theorem i153_54 : INS 153 54 = some (27, 1, 0, 0, .null, []) := rfl
set_option maxRecDepth 100000 in
theorem i153_55 : INS 153 55 = some (0, 1, 3, 0, .null, []) := rfl
set_option maxRecDepth 100000 in
theorem i153_56 : INS 153 56 = some (2, 1, 0, 0, .int 2, []) := rfl
set_option maxRecDepth 100000 in
theorem i153_57 : INS 153 57 = some (3, 1, 4, 0, .null, []) := rfl
set_option maxRecDepth 100000 in
theorem i153_58 : INS 153 58 = some (9, 3, 70, 1, .null, []) := rfl
set_option maxRecDepth 100000 in
theorem i153_61 : INS 153 61 = some (0, 1, 0, 2, .null, []) := rfl
set_option maxRecDepth 100000 in
theorem i153_62 : INS 153 62 = some (16, 3, 11, 28, .null, []) := rfl
set_option maxRecDepth 100000 in
theorem i153_65 : INS 153 65 = some (0, 1, 1, 0, .null, []) := rfl
set_option maxRecDepth 100000 in
theorem i153_66 : INS 153 66 = some (18, 1, 20, 0, .null, []) := rfl
set_option maxRecDepth 100000 in
theorem i153_67 : INS 153 67 = some (12, 3, 76, 0, .null, []) := rfl
set_option maxRecDepth 100000 in
theorem i153_70 : INS 153 70 = some (0, 1, 0, 2, .null, []) := rfl
set_option maxRecDepth 100000 in
theorem i153_71 : INS 153 71 = some (16, 3, 11, 29, .null, []) := rfl
set_option maxRecDepth 100000 in
theorem i153_74 : INS 153 74 = some (0, 1, 1, 0, .null, []) := rfl
set_option maxRecDepth 100000 in
theorem i153_75 : INS 153 75 = some (18, 1, 20, 0, .null, []) := rfl
set_option maxRecDepth 100000 in
theorem i153_76 : INS 153 76 = some (1, 2, 5, 0, .null, []) := rfl
set_option maxRecDepth 100000 in
theorem i153_78 : INS 153 78 = some (0, 1, 3, 0, .null, []) := rfl
set_option maxRecDepth 100000 in
theorem i153_79 : INS 153 79 = some (2, 1, 0, 0, .int 2, []) := rfl
set_option maxRecDepth 100000 in
theorem i153_80 : INS 153 80 = some (3, 1, 4, 0, .null, []) := rfl
set_option maxRecDepth 100000 in
theorem i153_81 : INS 153 81 = some (9, 3, 93, 1, .null, []) := rfl
set_option maxRecDepth 100000 in
theorem i153_84 : INS 153 84 = some (0, 1, 0, 2, .null, []) := rfl
set_option maxRecDepth 100000 in
theorem i153_85 : INS 153 85 = some (16, 3, 11, 29, .null, []) := rfl
set_option maxRecDepth 100000 in
theorem i153_88 : INS 153 88 = some (0, 1, 1, 0, .null, []) := rfl
set_option maxRecDepth 100000 in
theorem i153_89 : INS 153 89 = some (18, 1, 20, 0, .null, []) := rfl
set_option maxRecDepth 100000 in
theorem i153_90 : INS 153 90 = some (12, 3, 99, 0, .null, []) := rfl
set_option maxRecDepth 100000 in
theorem i153_93 : INS 153 93 = some (0, 1, 0, 2, .null, []) := rfl
set_option maxRecDepth 100000 in
theorem i153_94 : INS 153 94 = some (16, 3, 11, 28, .null, []) := rfl
set_option maxRecDepth 100000 in
theorem i153_97 : INS 153 97 = some (0, 1, 1, 0, .null, []) := rfl
set_option maxRecDepth 100000 in
theorem i153_98 : INS 153 98 = some (18, 1, 20, 0, .null, []) := rfl
set_option maxRecDepth 100000 in
theorem i153_99 : INS 153 99 = some (1, 2, 6, 0, .null, []) := rfl
set_option maxRecDepth 100000 in
theorem i153_101 : INS 153 101 = some (0, 2, 5, 0, .null, []) := rfl
set_option maxRecDepth 100000 in
theorem i153_103 : INS 153 103 = some (2, 2, 0, 0, .int 12, []) := rfl
set_option maxRecDepth 100000 in
theorem i153_105 : INS 153 105 = some (0, 1, 2, 0, .null, []) := rfl
set_option maxRecDepth 100000 in
theorem i153_106 : INS 153 106 = some (2, 2, 0, 0, .int 12, []) := rfl
set_option maxRecDepth 100000 in
theorem i153_108 : INS 153 108 = some (3, 1, 4, 0, .null, []) := rfl
set_option maxRecDepth 100000 in
theorem i153_109 : INS 153 109 = some (3, 1, 1, 0, .null, []) := rfl
set_option maxRecDepth 100000 in
theorem i153_110 : INS 153 110 = some (10, 3, 125, 4, .null, []) := rfl
set_option maxRecDepth 100000 in
theorem i153_113 : INS 153 113 = some (0, 2, 6, 0, .null, []) := rfl
set_option maxRecDepth 100000 in
theorem i153_115 : INS 153 115 = some (2, 2, 0, 0, .int 12, []) := rfl
set_option maxRecDepth 100000 in
theorem i153_117 : INS 153 117 = some (0, 1, 2, 0, .null, []) := rfl
set_option maxRecDepth 100000 in
theorem i153_118 : INS 153 118 = some (2, 2, 0, 0, .int 12, []) := rfl
set_option maxRecDepth 100000 in
theorem i153_120 : INS 153 120 = some (3, 1, 3, 0, .null, []) := rfl
set_option maxRecDepth 100000 in
theorem i153_121 : INS 153 121 = some (3, 1, 1, 0, .null, []) := rfl
set_option maxRecDepth 100000 in
theorem i153_122 : INS 153 122 = some (10, 3, 132, 5, .null, []) := rfl
set_option maxRecDepth 100000 in
theorem i153_125 : INS 153 125 = some (0, 1, 0, 2, .null, []) := rfl
set_option maxRecDepth 100000 in
theorem i153_126 : INS 153 126 = some (2, 2, 0, 0, .int (-6), []) := rfl
set_option maxRecDepth 100000 in
theorem i153_128 : INS 153 128 = some (24, 3, 124, 0, .null, []) := rfl
set_option maxRecDepth 100000 in
theorem i153_131 : INS 153 131 = some (27, 1, 0, 0, .null, []) := rfl
set_option maxRecDepth 100000 in
theorem i153_132 : INS 153 132 = some (2, 1, 0, 0, .int 0, []) := rfl
set_option maxRecDepth 100000 in
theorem i153_133 : INS 153 133 = some (1, 2, 7, 0, .null, []) := rfl
set_option maxRecDepth 100000 in
theorem i153_135 : INS 153 135 = some (0, 2, 7, 0, .null, []) := rfl
set_option maxRecDepth 100000 in
theorem i153_137 : INS 153 137 = some (0, 2, 5, 0, .null, []) := rfl
set_option maxRecDepth 100000 in
theorem i153_139 : INS 153 139 = some (0, 2, 6, 0, .null, []) := rfl
set_option maxRecDepth 100000 in
theorem i153_141 : INS 153 141 = some (3, 1, 2, 0, .null, []) := rfl
set_option maxRecDepth 100000 in
theorem i153_142 : INS 153 142 = some (10, 3, 193, 3, .null, []) := rfl
set_option maxRecDepth 100000 in
theorem i153_145 : INS 153 145 = some (0, 1, 0, 2, .null, []) := rfl
set_option maxRecDepth 100000 in
theorem i153_146 : INS 153 146 = some (16, 3, 11, 30, .null, []) := rfl
set_option maxRecDepth 100000 in
theorem i153_149 : INS 153 149 = some (2, 3, 0, 0, .int 576, []) := rfl
set_option maxRecDepth 100000 in
theorem i153_152 : INS 153 152 = some (0, 1, 1, 0, .null, []) := rfl
set_option maxRecDepth 100000 in
theorem i153_153 : INS 153 153 = some (3, 1, 2, 0, .null, []) := rfl
set_option maxRecDepth 100000 in
theorem i153_154 : INS 153 154 = some (2, 1, 0, 0, .int 4, []) := rfl
set_option maxRecDepth 100000 in
theorem i153_155 : INS 153 155 = some (0, 2, 7, 0, .null, []) := rfl
set_option maxRecDepth 100000 in
theorem i153_157 : INS 153 157 = some (3, 1, 2, 0, .null, []) := rfl
set_option maxRecDepth 100000 in
theorem i153_158 : INS 153 158 = some (3, 1, 0, 0, .null, []) := rfl
set_option maxRecDepth 100000 in
theorem i153_159 : INS 153 159 = some (18, 1, 20, 0, .null, []) := rfl
set_option maxRecDepth 100000 in
theorem i153_160 : INS 153 160 = some (9, 3, 187, 0, .null, []) := rfl
set_option maxRecDepth 100000 in
theorem i153_163 : INS 153 163 = some (0, 1, 0, 2, .null, []) := rfl
set_option maxRecDepth 100000 in
theorem i153_164 : INS 153 164 = some (16, 3, 11, 8, .null, []) := rfl
set_option maxRecDepth 100000 in
theorem i153_167 : INS 153 167 = some (0, 1, 0, 2, .null, []) := rfl
set_option maxRecDepth 100000 in
theorem i153_168 : INS 153 168 = some (0, 1, 1, 0, .null, []) := rfl
set_option maxRecDepth 100000 in
theorem i153_169 : INS 153 169 = some (0, 2, 7, 0, .null, []) := rfl
set_option maxRecDepth 100000 in
theorem i153_171 : INS 153 171 = some (0, 1, 2, 0, .null, []) := rfl
set_option maxRecDepth 100000 in
theorem i153_172 : INS 153 172 = some (0, 1, 3, 0, .null, []) := rfl
set_option maxRecDepth 100000 in
theorem i153_173 : INS 153 173 = some (24, 3, 151, 0, .null, []) := rfl
set_option maxRecDepth 100000 in
theorem i153_176 : INS 153 176 = some (18, 1, 20, 0, .null, []) := rfl
set_option maxRecDepth 100000 in
theorem i153_177 : INS 153 177 = some (9, 3, 187, 0, .null, []) := rfl
set_option maxRecDepth 100000 in
theorem i153_180 : INS 153 180 = some (0, 1, 0, 2, .null, []) := rfl
set_option maxRecDepth 100000 in
theorem i153_181 : INS 153 181 = some (2, 2, 0, 0, .int (-6), []) := rfl
set_option maxRecDepth 100000 in
theorem i153_183 : INS 153 183 = some (24, 3, 124, 0, .null, []) := rfl
set_option maxRecDepth 100000 in
theorem i153_186 : INS 153 186 = some (27, 1, 0, 0, .null, []) := rfl
set_option maxRecDepth 100000 in
theorem i153_187 : INS 153 187 = some (15, 3, 7, 0, .int 1, []) := rfl
set_option maxRecDepth 100000 in
theorem i153_190 : INS 153 190 = some (12, 3, 135, 0, .null, []) := rfl
set_option maxRecDepth 100000 in
theorem i153_193 : INS 153 193 = some (2, 1, 0, 0, .int 0, []) := rfl
set_option maxRecDepth 100000 in
theorem i153_194 : INS 153 194 = some (1, 2, 7, 0, .null, []) := rfl
set_option maxRecDepth 100000 in
theorem i153_196 : INS 153 196 = some (0, 2, 7, 0, .null, []) := rfl
set_option maxRecDepth 100000 in
theorem i153_198 : INS 153 198 = some (0, 2, 5, 0, .null, []) := rfl
set_option maxRecDepth 100000 in
theorem i153_200 : INS 153 200 = some (0, 2, 6, 0, .null, []) := rfl
set_option maxRecDepth 100000 in
theorem i153_202 : INS 153 202 = some (3, 1, 2, 0, .null, []) := rfl
set_option maxRecDepth 100000 in
theorem i153_203 : INS 153 203 = some (10, 3, 292, 3, .null, []) := rfl
set_option maxRecDepth 100000 in
theorem i153_206 : INS 153 206 = some (2, 3, 0, 0, .int 576, []) := rfl
set_option maxRecDepth 100000 in
theorem i153_209 : INS 153 209 = some (0, 1, 1, 0, .null, []) := rfl
set_option maxRecDepth 100000 in
theorem i153_210 : INS 153 210 = some (3, 1, 2, 0, .null, []) := rfl
set_option maxRecDepth 100000 in
theorem i153_211 : INS 153 211 = some (2, 1, 0, 0, .int 4, []) := rfl
set_option maxRecDepth 100000 in
theorem i153_212 : INS 153 212 = some (0, 2, 7, 0, .null, []) := rfl
set_option maxRecDepth 100000 in
theorem i153_214 : INS 153 214 = some (3, 1, 2, 0, .null, []) := rfl
set_option maxRecDepth 100000 in
theorem i153_215 : INS 153 215 = some (3, 1, 0, 0, .null, []) := rfl
set_option maxRecDepth 100000 in
theorem i153_216 : INS 153 216 = some (1, 2, 8, 0, .null, []) := rfl
set_option maxRecDepth 100000 in
theorem i153_218 : INS 153 218 = some (0, 1, 0, 2, .null, []) := rfl
set_option maxRecDepth 100000 in
theorem i153_219 : INS 153 219 = some (16, 3, 11, 30, .null, []) := rfl
set_option maxRecDepth 100000 in
theorem i153_222 : INS 153 222 = some (0, 2, 8, 0, .null, []) := rfl
set_option maxRecDepth 100000 in
theorem i153_224 : INS 153 224 = some (18, 1, 20, 0, .null, []) := rfl
set_option maxRecDepth 100000 in
theorem i153_225 : INS 153 225 = some (9, 3, 286, 0, .null, []) := rfl
set_option maxRecDepth 100000 in
theorem i153_228 : INS 153 228 = some (0, 1, 0, 2, .null, []) := rfl
set_option maxRecDepth 100000 in
theorem i153_229 : INS 153 229 = some (0, 1, 0, 2, .null, []) := rfl
set_option maxRecDepth 100000 in
theorem i153_230 : INS 153 230 = some (0, 1, 1, 0, .null, []) := rfl
set_option maxRecDepth 100000 in
theorem i153_231 : INS 153 231 = some (0, 2, 7, 0, .null, []) := rfl
set_option maxRecDepth 100000 in
theorem i153_233 : INS 153 233 = some (0, 1, 2, 0, .null, []) := rfl
set_option maxRecDepth 100000 in
theorem i153_234 : INS 153 234 = some (0, 1, 3, 0, .null, []) := rfl
set_option maxRecDepth 100000 in
theorem i153_235 : INS 153 235 = some (24, 3, 151, 0, .null, []) := rfl
set_option maxRecDepth 100000 in
theorem i153_238 : INS 153 238 = some (0, 1, 0, 2, .null, []) := rfl
set_option maxRecDepth 100000 in
theorem i153_239 : INS 153 239 = some (16, 3, 11, 30, .null, []) := rfl
set_option maxRecDepth 100000 in
theorem i153_242 : INS 153 242 = some (0, 2, 8, 0, .null, []) := rfl
set_option maxRecDepth 100000 in
theorem i153_244 : INS 153 244 = some (18, 1, 20, 0, .null, []) := rfl
set_option maxRecDepth 100000 in
theorem i153_245 : INS 153 245 = some (0, 1, 0, 2, .null, []) := rfl
set_option maxRecDepth 100000 in
theorem i153_246 : INS 153 246 = some (16, 3, 11, 30, .null, []) := rfl
set_option maxRecDepth 100000 in
theorem i153_249 : INS 153 249 = some (0, 2, 8, 0, .null, []) := rfl
set_option maxRecDepth 100000 in
theorem i153_251 : INS 153 251 = some (18, 1, 20, 0, .null, []) := rfl
set_option maxRecDepth 100000 in
theorem i153_252 : INS 153 252 = some (0, 1, 0, 2, .null, []) := rfl
set_option maxRecDepth 100000 in
theorem i153_253 : INS 153 253 = some (16, 3, 11, 30, .null, []) := rfl
set_option maxRecDepth 100000 in
theorem i153_256 : INS 153 256 = some (0, 2, 8, 0, .null, []) := rfl
set_option maxRecDepth 100000 in
theorem i153_258 : INS 153 258 = some (2, 1, 0, 0, .int 1, []) := rfl
set_option maxRecDepth 100000 in
theorem i153_259 : INS 153 259 = some (3, 1, 0, 0, .null, []) := rfl
set_option maxRecDepth 100000 in
theorem i153_260 : INS 153 260 = some (18, 1, 20, 0, .null, []) := rfl
set_option maxRecDepth 100000 in
theorem i153_261 : INS 153 261 = some (0, 1, 3, 0, .null, []) := rfl
set_option maxRecDepth 100000 in
theorem i153_262 : INS 153 262 = some (24, 3, 150, 2, .null, []) := rfl
set_option maxRecDepth 100000 in
theorem i153_265 : INS 153 265 = some (0, 1, 0, 2, .null, []) := rfl
set_option maxRecDepth 100000 in
theorem i153_266 : INS 153 266 = some (16, 3, 11, 30, .null, []) := rfl
set_option maxRecDepth 100000 in
theorem i153_269 : INS 153 269 = some (0, 2, 8, 0, .null, []) := rfl
set_option maxRecDepth 100000 in
theorem i153_271 : INS 153 271 = some (2, 1, 0, 0, .int 2, []) := rfl
set_option maxRecDepth 100000 in
theorem i153_272 : INS 153 272 = some (3, 1, 0, 0, .null, []) := rfl
set_option maxRecDepth 100000 in
theorem i153_273 : INS 153 273 = some (18, 1, 20, 0, .null, []) := rfl
set_option maxRecDepth 100000 in
theorem i153_274 : INS 153 274 = some (0, 1, 0, 2, .null, []) := rfl
set_option maxRecDepth 100000 in
theorem i153_275 : INS 153 275 = some (16, 3, 11, 30, .null, []) := rfl
set_option maxRecDepth 100000 in
theorem i153_278 : INS 153 278 = some (0, 2, 8, 0, .null, []) := rfl
set_option maxRecDepth 100000 in
theorem i153_280 : INS 153 280 = some (2, 1, 0, 0, .int 3, []) := rfl
set_option maxRecDepth 100000 in
theorem i153_281 : INS 153 281 = some (3, 1, 0, 0, .null, []) := rfl
set_option maxRecDepth 100000 in
theorem i153_282 : INS 153 282 = some (18, 1, 20, 0, .null, []) := rfl
set_option maxRecDepth 100000 in
theorem i153_283 : INS 153 283 = some (24, 3, 133, 0, .null, []) := rfl
set_option maxRecDepth 100000 in
theorem i153_286 : INS 153 286 = some (15, 3, 7, 0, .int 1, []) := rfl
set_option maxRecDepth 100000 in
theorem i153_289 : INS 153 289 = some (12, 3, 196, 0, .null, []) := rfl
set_option maxRecDepth 100000 in
theorem i153_292 : INS 153 292 = some (0, 1, 0, 2, .null, []) := rfl
set_option maxRecDepth 100000 in
theorem i153_293 : INS 153 293 = some (0, 1, 1, 0, .null, []) := rfl
set_option maxRecDepth 100000 in
theorem i153_294 : INS 153 294 = some (24, 3, 149, 0, .null, []) := rfl
set_option maxRecDepth 100000 in
theorem i153_297 : INS 153 297 = some (27, 1, 0, 0, .null, []) := rfl
set_option maxRecDepth 100000 in
theorem i154_0 : INS 154 0 = some (0, 1, 1, 0, .null, []) := rfl
set_option maxRecDepth 100000 in
theorem i154_1 : INS 154 1 = some (24, 3, 136, 2, .null, []) := rfl
set_option maxRecDepth 100000 in
theorem i154_4 : INS 154 4 = some (9, 3, 13, 1, .null, []) := rfl
set_option maxRecDepth 100000 in
theorem i154_7 : INS 154 7 = some (0, 1, 0, 2, .null, []) := rfl
set_option maxRecDepth 100000 in
theorem i154_8 : INS 154 8 = some (2, 1, 0, 0, .int (-1), []) := rfl
set_option maxRecDepth 100000 in
theorem i154_9 : INS 154 9 = some (24, 3, 124, 0, .null, []) := rfl
set_option maxRecDepth 100000 in
theorem i154_12 : INS 154 12 = some (27, 1, 0, 0, .null, []) := rfl
set_option maxRecDepth 100000 in
theorem i154_13 : INS 154 13 = some (0, 1, 0, 2, .null, []) := rfl
set_option maxRecDepth 100000 in
theorem i154_14 : INS 154 14 = some (0, 1, 1, 0, .null, []) := rfl
set_option maxRecDepth 100000 in
theorem i154_15 : INS 154 15 = some (24, 3, 152, 0, .null, []) := rfl
set_option maxRecDepth 100000 in
theorem i154_18 : INS 154 18 = some (1, 1, 2, 0, .null, []) := rfl
set_option maxRecDepth 100000 in
theorem i154_19 : INS 154 19 = some (0, 1, 2, 0, .null, []) := rfl
set_option maxRecDepth 100000 in
theorem i154_20 : INS 154 20 = some (9, 3, 31, 0, .null, []) := rfl
set_option maxRecDepth 100000 in
theorem i154_23 : INS 154 23 = some (0, 1, 0, 2, .null, []) := rfl
set_option maxRecDepth 100000 in
theorem i154_24 : INS 154 24 = some (0, 1, 2, 0, .null, []) := rfl
set_option maxRecDepth 100000 in
theorem i154_25 : INS 154 25 = some (24, 3, 124, 0, .null, []) := rfl
set_option maxRecDepth 100000 in
theorem i154_28 : INS 154 28 = some (12, 3, 36, 0, .null, []) := rfl
set_option maxRecDepth 100000 in
theorem i154_31 : INS 154 31 = some (0, 1, 0, 2, .null, []) := rfl
set_option maxRecDepth 100000 in
theorem i154_32 : INS 154 32 = some (0, 1, 1, 0, .null, []) := rfl
set_option maxRecDepth 100000 in
theorem i154_33 : INS 154 33 = some (24, 3, 149, 0, .null, []) := rfl
set_option maxRecDepth 100000 in
theorem i154_36 : INS 154 36 = some (27, 1, 0, 0, .null, []) := rfl
set_option maxRecDepth 100000 in
theorem i155_0 : INS 155 0 = some (2, 3, 0, 0, .int 144, []) := rfl
set_option maxRecDepth 100000 in
theorem i155_3 : INS 155 3 = some (0, 1, 1, 0, .null, []) := rfl
set_option maxRecDepth 100000 in
theorem i155_4 : INS 155 4 = some (3, 1, 2, 0, .null, []) := rfl
set_option maxRecDepth 100000 in
theorem i155_5 : INS 155 5 = some (0, 1, 2, 0, .null, []) := rfl
set_option maxRecDepth 100000 in
theorem i155_6 : INS 155 6 = some (3, 1, 0, 0, .null, []) := rfl
set_option maxRecDepth 100000 in
theorem i155_7 : INS 155 7 = some (1, 1, 3, 0, .null, []) := rfl
set_option maxRecDepth 100000 in
theorem i155_8 : INS 155 8 = some (0, 1, 0, 2, .null, []) := rfl
set_option maxRecDepth 100000 in
theorem i155_9 : INS 155 9 = some (16, 3, 11, 10, .null, []) := rfl
set_option maxRecDepth 100000 in
theorem i155_12 : INS 155 12 = some (0, 1, 2, 0, .null, []) := rfl
set_option maxRecDepth 100000 in
theorem i155_13 : INS 155 13 = some (18, 1, 20, 0, .null, []) := rfl
set_option maxRecDepth 100000 in
theorem i155_14 : INS 155 14 = some (1, 2, 4, 0, .null, []) := rfl
set_option maxRecDepth 100000 in
theorem i155_16 : INS 155 16 = some (0, 1, 0, 2, .null, []) := rfl
set_option maxRecDepth 100000 in
theorem i155_17 : INS 155 17 = some (16, 3, 11, 20, .null, []) := rfl
set_option maxRecDepth 100000 in
theorem i155_20 : INS 155 20 = some (0, 1, 3, 0, .null, []) := rfl
set_option maxRecDepth 100000 in
theorem i155_21 : INS 155 21 = some (18, 1, 22, 0, .null, []) := rfl
set_option maxRecDepth 100000 in
theorem i155_22 : INS 155 22 = some (9, 3, 91, 0, .null, []) := rfl
set_option maxRecDepth 100000 in
theorem i155_25 : INS 155 25 = some (0, 1, 0, 2, .null, []) := rfl
set_option maxRecDepth 100000 in
theorem i155_26 : INS 155 26 = some (16, 3, 11, 19, .null, []) := rfl
set_option maxRecDepth 100000 in
theorem i155_29 : INS 155 29 = some (0, 1, 3, 0, .null, []) := rfl
set_option maxRecDepth 100000 in
theorem i155_30 : INS 155 30 = some (8, 1, 2, 0, .null, []) := rfl
set_option maxRecDepth 100000 in
theorem i155_31 : INS 155 31 = some (18, 1, 20, 0, .null, []) := rfl
set_option maxRecDepth 100000 in
theorem i155_32 : INS 155 32 = some (2, 1, 0, 0, .int 1, []) := rfl
set_option maxRecDepth 100000 in
theorem i155_33 : INS 155 33 = some (3, 1, 0, 0, .null, []) := rfl
set_option maxRecDepth 100000 in
theorem i155_34 : INS 155 34 = some (19, 1, 20, 0, .null, []) := rfl
set_option maxRecDepth 100000 in
theorem i155_35 : INS 155 35 = some (0, 1, 0, 2, .null, []) := rfl
set_option maxRecDepth 100000 in
theorem i155_36 : INS 155 36 = some (16, 3, 11, 19, .null, []) := rfl
set_option maxRecDepth 100000 in
theorem i155_39 : INS 155 39 = some (0, 1, 3, 0, .null, []) := rfl
set_option maxRecDepth 100000 in
theorem i155_40 : INS 155 40 = some (18, 1, 20, 0, .null, []) := rfl
set_option maxRecDepth 100000 in
theorem i155_41 : INS 155 41 = some (0, 1, 0, 2, .null, []) := rfl
set_option maxRecDepth 100000 in
theorem i155_42 : INS 155 42 = some (16, 3, 11, 4, .null, []) := rfl
set_option maxRecDepth 100000 in
theorem i155_45 : INS 155 45 = some (0, 2, 4, 0, .null, []) := rfl
set_option maxRecDepth 100000 in
theorem i155_47 : INS 155 47 = some (18, 1, 20, 0, .null, []) := rfl
set_option maxRecDepth 100000 in
theorem i155_48 : INS 155 48 = some (10, 3, 91, 1, .null, []) := rfl
set_option maxRecDepth 100000 in
theorem i155_51 : INS 155 51 = some (0, 1, 0, 2, .null, []) := rfl
set_option maxRecDepth 100000 in
theorem i155_52 : INS 155 52 = some (16, 3, 11, 18, .null, []) := rfl
set_option maxRecDepth 100000 in
theorem i155_55 : INS 155 55 = some (0, 1, 3, 0, .null, []) := rfl
set_option maxRecDepth 100000 in
theorem i155_56 : INS 155 56 = some (8, 1, 2, 0, .null, []) := rfl
set_option maxRecDepth 100000 in
theorem i155_57 : INS 155 57 = some (18, 1, 20, 0, .null, []) := rfl
set_option maxRecDepth 100000 in
theorem i155_58 : INS 155 58 = some (0, 1, 0, 2, .null, []) := rfl
set_option maxRecDepth 100000 in
theorem i155_59 : INS 155 59 = some (16, 3, 11, 2, .null, []) := rfl
set_option maxRecDepth 100000 in
theorem i155_62 : INS 155 62 = some (0, 2, 4, 0, .null, []) := rfl
set_option maxRecDepth 100000 in
theorem i155_64 : INS 155 64 = some (18, 1, 20, 0, .null, []) := rfl
set_option maxRecDepth 100000 in
theorem i155_65 : INS 155 65 = some (3, 1, 0, 0, .null, []) := rfl
set_option maxRecDepth 100000 in
theorem i155_66 : INS 155 66 = some (19, 1, 20, 0, .null, []) := rfl
set_option maxRecDepth 100000 in
theorem i155_67 : INS 155 67 = some (0, 1, 0, 2, .null, []) := rfl
set_option maxRecDepth 100000 in
theorem i155_68 : INS 155 68 = some (16, 3, 11, 20, .null, []) := rfl
set_option maxRecDepth 100000 in
theorem i155_71 : INS 155 71 = some (0, 1, 3, 0, .null, []) := rfl
set_option maxRecDepth 100000 in
theorem i155_72 : INS 155 72 = some (2, 1, 0, 0, .int 0, []) := rfl
set_option maxRecDepth 100000 in
theorem i155_73 : INS 155 73 = some (19, 1, 22, 0, .null, []) := rfl
set_option maxRecDepth 100000 in
theorem i155_74 : INS 155 74 = some (0, 1, 0, 2, .null, []) := rfl
set_option maxRecDepth 100000 in
theorem i155_75 : INS 155 75 = some (16, 3, 11, 19, .null, []) := rfl
set_option maxRecDepth 100000 in
theorem i155_78 : INS 155 78 = some (0, 1, 3, 0, .null, []) := rfl
set_option maxRecDepth 100000 in
theorem i155_79 : INS 155 79 = some (2, 1, 0, 0, .int 0, []) := rfl
set_option maxRecDepth 100000 in
theorem i155_80 : INS 155 80 = some (19, 1, 20, 0, .null, []) := rfl
set_option maxRecDepth 100000 in
theorem i155_81 : INS 155 81 = some (0, 1, 0, 2, .null, []) := rfl
set_option maxRecDepth 100000 in
theorem i155_82 : INS 155 82 = some (16, 3, 11, 39, .null, []) := rfl
set_option maxRecDepth 100000 in
theorem i155_85 : INS 155 85 = some (0, 1, 2, 0, .null, []) := rfl
set_option maxRecDepth 100000 in
theorem i155_86 : INS 155 86 = some (8, 1, 2, 0, .null, []) := rfl
set_option maxRecDepth 100000 in
theorem i155_87 : INS 155 87 = some (18, 1, 20, 0, .null, []) := rfl
set_option maxRecDepth 100000 in
theorem i155_88 : INS 155 88 = some (2, 1, 0, 0, .int 1, []) := rfl
set_option maxRecDepth 100000 in
theorem i155_89 : INS 155 89 = some (3, 1, 0, 0, .null, []) := rfl
set_option maxRecDepth 100000 in
theorem i155_90 : INS 155 90 = some (19, 1, 20, 0, .null, []) := rfl
set_option maxRecDepth 100000 in
theorem i155_91 : INS 155 91 = some (0, 1, 0, 2, .null, []) := rfl
set_option maxRecDepth 100000 in
theorem i155_92 : INS 155 92 = some (16, 3, 11, 20, .null, []) := rfl
set_option maxRecDepth 100000 in
theorem i155_95 : INS 155 95 = some (0, 1, 3, 0, .null, []) := rfl
set_option maxRecDepth 100000 in
theorem i155_96 : INS 155 96 = some (18, 1, 22, 0, .null, []) := rfl
set_option maxRecDepth 100000 in
theorem i155_97 : INS 155 97 = some (9, 3, 218, 1, .null, []) := rfl
set_option maxRecDepth 100000 in
theorem i155_100 : INS 155 100 = some (0, 1, 0, 2, .null, []) := rfl
set_option maxRecDepth 100000 in
theorem i155_101 : INS 155 101 = some (16, 3, 11, 18, .null, []) := rfl
set_option maxRecDepth 100000 in
theorem i155_104 : INS 155 104 = some (0, 1, 3, 0, .null, []) := rfl
set_option maxRecDepth 100000 in
theorem i155_105 : INS 155 105 = some (18, 1, 20, 0, .null, []) := rfl
set_option maxRecDepth 100000 in
theorem i155_106 : INS 155 106 = some (0, 1, 0, 2, .null, []) := rfl
set_option maxRecDepth 100000 in
theorem i155_107 : INS 155 107 = some (16, 3, 11, 2, .null, []) := rfl
set_option maxRecDepth 100000 in
theorem i155_110 : INS 155 110 = some (0, 2, 4, 0, .null, []) := rfl
set_option maxRecDepth 100000 in
theorem i155_112 : INS 155 112 = some (18, 1, 20, 0, .null, []) := rfl
set_option maxRecDepth 100000 in
theorem i155_113 : INS 155 113 = some (10, 3, 218, 4, .null, []) := rfl
set_option maxRecDepth 100000 in
theorem i155_116 : INS 155 116 = some (0, 1, 0, 2, .null, []) := rfl
set_option maxRecDepth 100000 in
theorem i155_117 : INS 155 117 = some (16, 3, 11, 21, .null, []) := rfl
set_option maxRecDepth 100000 in
theorem i155_120 : INS 155 120 = some (2, 1, 0, 0, .int 2, []) := rfl
set_option maxRecDepth 100000 in
theorem i155_121 : INS 155 121 = some (0, 1, 3, 0, .null, []) := rfl
set_option maxRecDepth 100000 in
theorem i155_122 : INS 155 122 = some (3, 1, 2, 0, .null, []) := rfl
set_option maxRecDepth 100000 in
theorem i155_123 : INS 155 123 = some (18, 1, 20, 0, .null, []) := rfl
set_option maxRecDepth 100000 in
theorem i155_124 : INS 155 124 = some (0, 1, 0, 2, .null, []) := rfl
set_option maxRecDepth 100000 in
theorem i155_125 : INS 155 125 = some (16, 3, 11, 6, .null, []) := rfl
set_option maxRecDepth 100000 in
theorem i155_128 : INS 155 128 = some (2, 1, 0, 0, .int 2, []) := rfl
set_option maxRecDepth 100000 in
theorem i155_129 : INS 155 129 = some (0, 2, 4, 0, .null, []) := rfl
set_option maxRecDepth 100000 in
theorem i155_131 : INS 155 131 = some (3, 1, 2, 0, .null, []) := rfl
set_option maxRecDepth 100000 in
theorem i155_132 : INS 155 132 = some (18, 1, 20, 0, .null, []) := rfl
set_option maxRecDepth 100000 in
theorem i155_133 : INS 155 133 = some (10, 3, 218, 2, .null, []) := rfl
set_option maxRecDepth 100000 in
theorem i155_136 : INS 155 136 = some (0, 1, 0, 2, .null, []) := rfl
set_option maxRecDepth 100000 in
theorem i155_137 : INS 155 137 = some (16, 3, 11, 21, .null, []) := rfl
set_option maxRecDepth 100000 in
theorem i155_140 : INS 155 140 = some (2, 1, 0, 0, .int 2, []) := rfl
set_option maxRecDepth 100000 in
theorem i155_141 : INS 155 141 = some (0, 1, 3, 0, .null, []) := rfl
set_option maxRecDepth 100000 in
theorem i155_142 : INS 155 142 = some (3, 1, 2, 0, .null, []) := rfl
set_option maxRecDepth 100000 in
theorem i155_143 : INS 155 143 = some (2, 1, 0, 0, .int 1, []) := rfl
set_option maxRecDepth 100000 in
theorem i155_144 : INS 155 144 = some (3, 1, 0, 0, .null, []) := rfl
set_option maxRecDepth 100000 in
theorem i155_145 : INS 155 145 = some (18, 1, 20, 0, .null, []) := rfl
set_option maxRecDepth 100000 in
theorem i155_146 : INS 155 146 = some (0, 1, 0, 2, .null, []) := rfl
set_option maxRecDepth 100000 in
theorem i155_147 : INS 155 147 = some (16, 3, 11, 6, .null, []) := rfl
set_option maxRecDepth 100000 in
theorem i155_150 : INS 155 150 = some (2, 1, 0, 0, .int 2, []) := rfl
set_option maxRecDepth 100000 in
theorem i155_151 : INS 155 151 = some (0, 2, 4, 0, .null, []) := rfl
set_option maxRecDepth 100000 in
theorem i155_153 : INS 155 153 = some (3, 1, 2, 0, .null, []) := rfl
set_option maxRecDepth 100000 in
theorem i155_154 : INS 155 154 = some (2, 1, 0, 0, .int 1, []) := rfl
set_option maxRecDepth 100000 in
theorem i155_155 : INS 155 155 = some (3, 1, 0, 0, .null, []) := rfl
set_option maxRecDepth 100000 in
theorem i155_156 : INS 155 156 = some (18, 1, 20, 0, .null, []) := rfl
set_option maxRecDepth 100000 in
theorem i155_157 : INS 155 157 = some (10, 3, 218, 2, .null, []) := rfl
set_option maxRecDepth 100000 in
theorem i155_160 : INS 155 160 = some (0, 1, 0, 2, .null, []) := rfl
set_option maxRecDepth 100000 in
theorem i155_161 : INS 155 161 = some (16, 3, 11, 21, .null, []) := rfl
set_option maxRecDepth 100000 in
theorem i155_164 : INS 155 164 = some (2, 1, 0, 0, .int 2, []) := rfl
set_option maxRecDepth 100000 in
theorem i155_165 : INS 155 165 = some (0, 1, 3, 0, .null, []) := rfl
set_option maxRecDepth 100000 in
theorem i155_166 : INS 155 166 = some (3, 1, 2, 0, .null, []) := rfl
set_option maxRecDepth 100000 in
theorem i155_167 : INS 155 167 = some (8, 1, 2, 0, .null, []) := rfl
set_option maxRecDepth 100000 in
theorem i155_168 : INS 155 168 = some (18, 1, 20, 0, .null, []) := rfl
set_option maxRecDepth 100000 in
theorem i155_169 : INS 155 169 = some (0, 1, 0, 2, .null, []) := rfl
set_option maxRecDepth 100000 in
theorem i155_170 : INS 155 170 = some (16, 3, 11, 6, .null, []) := rfl
set_option maxRecDepth 100000 in
theorem i155_173 : INS 155 173 = some (2, 1, 0, 0, .int 2, []) := rfl
set_option maxRecDepth 100000 in
theorem i155_174 : INS 155 174 = some (0, 2, 4, 0, .null, []) := rfl
set_option maxRecDepth 100000 in
theorem i155_176 : INS 155 176 = some (3, 1, 2, 0, .null, []) := rfl
set_option maxRecDepth 100000 in
theorem i155_177 : INS 155 177 = some (18, 1, 20, 0, .null, []) := rfl
set_option maxRecDepth 100000 in
theorem i155_178 : INS 155 178 = some (3, 1, 1, 0, .null, []) := rfl
set_option maxRecDepth 100000 in
theorem i155_179 : INS 155 179 = some (19, 1, 20, 0, .null, []) := rfl
set_option maxRecDepth 100000 in
theorem i155_180 : INS 155 180 = some (0, 1, 0, 2, .null, []) := rfl
set_option maxRecDepth 100000 in
theorem i155_181 : INS 155 181 = some (16, 3, 11, 21, .null, []) := rfl
set_option maxRecDepth 100000 in
theorem i155_184 : INS 155 184 = some (2, 1, 0, 0, .int 2, []) := rfl
set_option maxRecDepth 100000 in
theorem i155_185 : INS 155 185 = some (0, 1, 3, 0, .null, []) := rfl
set_option maxRecDepth 100000 in
theorem i155_186 : INS 155 186 = some (3, 1, 2, 0, .null, []) := rfl
set_option maxRecDepth 100000 in
theorem i155_187 : INS 155 187 = some (2, 1, 0, 0, .int 1, []) := rfl
set_option maxRecDepth 100000 in
theorem i155_188 : INS 155 188 = some (3, 1, 0, 0, .null, []) := rfl
set_option maxRecDepth 100000 in
theorem i155_189 : INS 155 189 = some (8, 1, 2, 0, .null, []) := rfl
set_option maxRecDepth 100000 in
theorem i155_190 : INS 155 190 = some (18, 1, 20, 0, .null, []) := rfl
set_option maxRecDepth 100000 in
theorem i155_191 : INS 155 191 = some (0, 1, 0, 2, .null, []) := rfl
set_option maxRecDepth 100000 in
theorem i155_192 : INS 155 192 = some (16, 3, 11, 6, .null, []) := rfl
set_option maxRecDepth 100000 in
theorem i155_195 : INS 155 195 = some (2, 1, 0, 0, .int 2, []) := rfl
set_option maxRecDepth 100000 in
theorem i155_196 : INS 155 196 = some (0, 2, 4, 0, .null, []) := rfl
set_option maxRecDepth 100000 in
theorem i155_198 : INS 155 198 = some (3, 1, 2, 0, .null, []) := rfl
set_option maxRecDepth 100000 in
theorem i155_199 : INS 155 199 = some (2, 1, 0, 0, .int 1, []) := rfl
set_option maxRecDepth 100000 in
theorem i155_200 : INS 155 200 = some (3, 1, 0, 0, .null, []) := rfl
set_option maxRecDepth 100000 in
theorem i155_201 : INS 155 201 = some (18, 1, 20, 0, .null, []) := rfl
set_option maxRecDepth 100000 in
theorem i155_202 : INS 155 202 = some (3, 1, 1, 0, .null, []) := rfl
set_option maxRecDepth 100000 in
theorem i155_203 : INS 155 203 = some (19, 1, 20, 0, .null, []) := rfl
set_option maxRecDepth 100000 in
theorem i155_204 : INS 155 204 = some (0, 1, 0, 2, .null, []) := rfl
set_option maxRecDepth 100000 in
theorem i155_205 : INS 155 205 = some (16, 3, 11, 20, .null, []) := rfl
set_option maxRecDepth 100000 in
theorem i155_208 : INS 155 208 = some (0, 1, 3, 0, .null, []) := rfl
set_option maxRecDepth 100000 in
theorem i155_209 : INS 155 209 = some (2, 1, 0, 0, .int 1, []) := rfl
set_option maxRecDepth 100000 in
theorem i155_210 : INS 155 210 = some (19, 1, 22, 0, .null, []) := rfl
set_option maxRecDepth 100000 in
theorem i155_211 : INS 155 211 = some (0, 1, 0, 2, .null, []) := rfl
set_option maxRecDepth 100000 in
theorem i155_212 : INS 155 212 = some (16, 3, 11, 19, .null, []) := rfl
set_option maxRecDepth 100000 in
theorem i155_215 : INS 155 215 = some (0, 1, 3, 0, .null, []) := rfl
set_option maxRecDepth 100000 in
theorem i155_216 : INS 155 216 = some (2, 1, 0, 0, .int 0, []) := rfl
set_option maxRecDepth 100000 in
theorem i155_217 : INS 155 217 = some (19, 1, 20, 0, .null, []) := rfl
set_option maxRecDepth 100000 in
theorem i155_218 : INS 155 218 = some (27, 1, 3, 0, .null, []) := rfl
set_option maxRecDepth 100000 in
theorem i156_0 : INS 156 0 = some (0, 1, 0, 2, .null, []) := rfl
set_option maxRecDepth 100000 in
theorem i156_1 : INS 156 1 = some (16, 3, 11, 8, .null, []) := rfl
set_option maxRecDepth 100000 in
theorem i156_4 : INS 156 4 = some (0, 1, 2, 0, .null, []) := rfl
set_option maxRecDepth 100000 in
theorem i156_5 : INS 156 5 = some (18, 1, 20, 0, .null, []) := rfl
set_option maxRecDepth 100000 in
theorem i156_6 : INS 156 6 = some (2, 2, 0, 0, .int 6, []) := rfl
set_option maxRecDepth 100000 in
theorem i156_8 : INS 156 8 = some (10, 3, 44, 1, .null, []) := rfl
set_option maxRecDepth 100000 in
theorem i156_11 : INS 156 11 = some (0, 1, 0, 2, .null, []) := rfl
set_option maxRecDepth 100000 in
theorem i156_12 : INS 156 12 = some (16, 3, 11, 18, .null, []) := rfl
set_option maxRecDepth 100000 in
theorem i156_15 : INS 156 15 = some (2, 3, 0, 0, .int 144, []) := rfl
set_option maxRecDepth 100000 in
theorem i156_18 : INS 156 18 = some (0, 1, 1, 0, .null, []) := rfl
set_option maxRecDepth 100000 in
theorem i156_19 : INS 156 19 = some (3, 1, 2, 0, .null, []) := rfl
set_option maxRecDepth 100000 in
theorem i156_20 : INS 156 20 = some (0, 1, 2, 0, .null, []) := rfl
set_option maxRecDepth 100000 in
theorem i156_21 : INS 156 21 = some (3, 1, 0, 0, .null, []) := rfl
set_option maxRecDepth 100000 in
theorem i156_22 : INS 156 22 = some (18, 1, 20, 0, .null, []) := rfl
set_option maxRecDepth 100000 in
theorem i156_23 : INS 156 23 = some (9, 3, 40, 5, .null, []) := rfl
set_option maxRecDepth 100000 in
theorem i156_26 : INS 156 26 = some (0, 1, 0, 2, .null, []) := rfl
set_option maxRecDepth 100000 in
theorem i156_27 : INS 156 27 = some (16, 3, 11, 3, .null, []) := rfl
set_option maxRecDepth 100000 in
theorem i156_30 : INS 156 30 = some (0, 1, 0, 2, .null, []) := rfl
set_option maxRecDepth 100000 in
theorem i156_31 : INS 156 31 = some (16, 3, 11, 10, .null, []) := rfl
set_option maxRecDepth 100000 in
theorem i156_34 : INS 156 34 = some (0, 1, 2, 0, .null, []) := rfl
set_option maxRecDepth 100000 in
theorem i156_35 : INS 156 35 = some (18, 1, 20, 0, .null, []) := rfl
set_option maxRecDepth 100000 in
theorem i156_36 : INS 156 36 = some (18, 1, 20, 0, .null, []) := rfl
set_option maxRecDepth 100000 in
theorem i156_37 : INS 156 37 = some (12, 3, 56, 0, .null, []) := rfl
set_option maxRecDepth 100000 in
theorem i156_40 : INS 156 40 = some (2, 1, 0, 0, .int 0, []) := rfl
set_option maxRecDepth 100000 in
theorem i156_41 : INS 156 41 = some (12, 3, 56, 0, .null, []) := rfl
set_option maxRecDepth 100000 in
theorem i156_44 : INS 156 44 = some (0, 1, 0, 2, .null, []) := rfl
set_option maxRecDepth 100000 in
theorem i156_45 : INS 156 45 = some (16, 3, 11, 16, .null, []) := rfl
set_option maxRecDepth 100000 in
theorem i156_48 : INS 156 48 = some (2, 3, 0, 0, .int 144, []) := rfl
set_option maxRecDepth 100000 in
theorem i156_51 : INS 156 51 = some (0, 1, 1, 0, .null, []) := rfl
set_option maxRecDepth 100000 in
theorem i156_52 : INS 156 52 = some (3, 1, 2, 0, .null, []) := rfl
set_option maxRecDepth 100000 in
theorem i156_53 : INS 156 53 = some (0, 1, 2, 0, .null, []) := rfl
set_option maxRecDepth 100000 in
theorem i156_54 : INS 156 54 = some (3, 1, 0, 0, .null, []) := rfl
set_option maxRecDepth 100000 in
theorem i156_55 : INS 156 55 = some (18, 1, 20, 0, .null, []) := rfl
set_option maxRecDepth 100000 in
theorem i156_56 : INS 156 56 = some (27, 1, 0, 0, .null, []) := rfl
set_option maxRecDepth 100000 in
theorem i157_0 : INS 157 0 = some (2, 3, 0, 0, .int 144, []) := rfl
set_option maxRecDepth 100000 in
theorem i157_3 : INS 157 3 = some (0, 1, 1, 0, .null, []) := rfl
set_option maxRecDepth 100000 in
theorem i157_4 : INS 157 4 = some (3, 1, 2, 0, .null, []) := rfl
set_option maxRecDepth 100000 in
theorem i157_5 : INS 157 5 = some (0, 1, 2, 0, .null, []) := rfl
set_option maxRecDepth 100000 in
theorem i157_6 : INS 157 6 = some (3, 1, 0, 0, .null, []) := rfl
set_option maxRecDepth 100000 in
theorem i157_7 : INS 157 7 = some (1, 2, 6, 0, .null, []) := rfl
set_option maxRecDepth 100000 in
theorem i157_9 : INS 157 9 = some (0, 1, 0, 2, .null, []) := rfl
set_option maxRecDepth 100000 in
theorem i157_10 : INS 157 10 = some (16, 3, 11, 8, .null, []) := rfl
set_option maxRecDepth 100000 in
theorem i157_13 : INS 157 13 = some (0, 1, 2, 0, .null, []) := rfl
set_option maxRecDepth 100000 in
theorem i157_14 : INS 157 14 = some (18, 1, 20, 0, .null, []) := rfl
set_option maxRecDepth 100000 in
theorem i157_15 : INS 157 15 = some (13, 41, 191, 1, .null, [56, 56, 83, 126, 191, 156, 189]) := rfl
set_option maxRecDepth 100000 in
theorem i157_56 : INS 157 56 = some (0, 1, 0, 2, .null, []) := rfl
set_option maxRecDepth 100000 in
theorem i157_57 : INS 157 57 = some (16, 3, 11, 16, .null, []) := rfl
set_option maxRecDepth 100000 in
theorem i157_60 : INS 157 60 = some (0, 2, 6, 0, .null, []) := rfl
set_option maxRecDepth 100000 in
theorem i157_62 : INS 157 62 = some (18, 1, 20, 0, .null, []) := rfl
set_option maxRecDepth 100000 in
theorem i157_63 : INS 157 63 = some (9, 3, 81, 1, .null, []) := rfl
set_option maxRecDepth 100000 in
theorem i157_66 : INS 157 66 = some (0, 1, 0, 2, .null, []) := rfl
set_option maxRecDepth 100000 in
theorem i157_67 : INS 157 67 = some (16, 3, 11, 9, .null, []) := rfl
set_option maxRecDepth 100000 in
theorem i157_70 : INS 157 70 = some (0, 1, 2, 0, .null, []) := rfl
set_option maxRecDepth 100000 in
theorem i157_71 : INS 157 71 = some (18, 1, 20, 0, .null, []) := rfl
set_option maxRecDepth 100000 in
theorem i157_72 : INS 157 72 = some (0, 2, 4, 0, .null, []) := rfl
set_option maxRecDepth 100000 in
theorem i157_74 : INS 157 74 = some (10, 3, 81, 0, .null, []) := rfl
set_option maxRecDepth 100000 in
theorem i157_77 : INS 157 77 = some (2, 1, 0, 0, .int 1, []) := rfl
set_option maxRecDepth 100000 in
theorem i157_78 : INS 157 78 = some (12, 3, 82, 0, .null, []) := rfl
set_option maxRecDepth 100000 in
theorem i157_81 : INS 157 81 = some (2, 1, 0, 0, .int 0, []) := rfl
set_option maxRecDepth 100000 in
theorem i157_82 : INS 157 82 = some (27, 1, 0, 0, .null, []) := rfl
set_option maxRecDepth 100000 in
theorem i157_83 : INS 157 83 = some (0, 1, 0, 2, .null, []) := rfl
set_option maxRecDepth 100000 in
theorem i157_84 : INS 157 84 = some (16, 3, 11, 16, .null, []) := rfl
set_option maxRecDepth 100000 in
theorem i157_87 : INS 157 87 = some (0, 2, 6, 0, .null, []) := rfl
set_option maxRecDepth 100000 in
theorem i157_89 : INS 157 89 = some (18, 1, 20, 0, .null, []) := rfl
set_option maxRecDepth 100000 in
theorem i157_90 : INS 157 90 = some (9, 3, 124, 1, .null, []) := rfl
set_option maxRecDepth 100000 in
theorem i157_93 : INS 157 93 = some (0, 1, 0, 2, .null, []) := rfl
set_option maxRecDepth 100000 in
theorem i157_94 : INS 157 94 = some (16, 3, 11, 8, .null, []) := rfl
set_option maxRecDepth 100000 in
theorem i157_97 : INS 157 97 = some (0, 2, 5, 0, .null, []) := rfl
set_option maxRecDepth 100000 in
theorem i157_99 : INS 157 99 = some (18, 1, 20, 0, .null, []) := rfl
set_option maxRecDepth 100000 in
theorem i157_100 : INS 157 100 = some (2, 1, 0, 0, .int 2, []) := rfl
set_option maxRecDepth 100000 in
theorem i157_101 : INS 157 101 = some (10, 3, 124, 1, .null, []) := rfl
set_option maxRecDepth 100000 in
theorem i157_104 : INS 157 104 = some (0, 1, 0, 2, .null, []) := rfl
set_option maxRecDepth 100000 in
theorem i157_105 : INS 157 105 = some (16, 3, 11, 9, .null, []) := rfl
set_option maxRecDepth 100000 in
theorem i157_108 : INS 157 108 = some (0, 2, 5, 0, .null, []) := rfl
set_option maxRecDepth 100000 in
theorem i157_110 : INS 157 110 = some (18, 1, 20, 0, .null, []) := rfl
set_option maxRecDepth 100000 in
theorem i157_111 : INS 157 111 = some (0, 1, 0, 2, .null, []) := rfl
set_option maxRecDepth 100000 in
theorem i157_112 : INS 157 112 = some (16, 3, 11, 9, .null, []) := rfl
set_option maxRecDepth 100000 in
theorem i157_115 : INS 157 115 = some (0, 1, 2, 0, .null, []) := rfl
set_option maxRecDepth 100000 in
theorem i157_116 : INS 157 116 = some (18, 1, 20, 0, .null, []) := rfl
set_option maxRecDepth 100000 in
theorem i157_117 : INS 157 117 = some (10, 3, 124, 1, .null, []) := rfl
set_option maxRecDepth 100000 in
theorem i157_120 : INS 157 120 = some (2, 1, 0, 0, .int 1, []) := rfl
set_option maxRecDepth 100000 in
theorem i157_121 : INS 157 121 = some (12, 3, 125, 0, .null, []) := rfl
set_option maxRecDepth 100000 in
theorem i157_124 : INS 157 124 = some (2, 1, 0, 0, .int 0, []) := rfl
set_option maxRecDepth 100000 in
theorem i157_125 : INS 157 125 = some (27, 1, 0, 0, .null, []) := rfl
set_option maxRecDepth 100000 in
theorem i157_126 : INS 157 126 = some (0, 1, 0, 2, .null, []) := rfl
set_option maxRecDepth 100000 in
theorem i157_127 : INS 157 127 = some (16, 3, 11, 16, .null, []) := rfl
set_option maxRecDepth 100000 in
theorem i157_130 : INS 157 130 = some (0, 2, 6, 0, .null, []) := rfl
set_option maxRecDepth 100000 in
theorem i157_132 : INS 157 132 = some (18, 1, 20, 0, .null, []) := rfl
set_option maxRecDepth 100000 in
theorem i157_133 : INS 157 133 = some (9, 3, 154, 1, .null, []) := rfl
set_option maxRecDepth 100000 in
theorem i157_136 : INS 157 136 = some (0, 1, 0, 2, .null, []) := rfl
set_option maxRecDepth 100000 in
theorem i157_137 : INS 157 137 = some (16, 3, 11, 9, .null, []) := rfl
set_option maxRecDepth 100000 in
theorem i157_140 : INS 157 140 = some (0, 1, 2, 0, .null, []) := rfl
set_option maxRecDepth 100000 in
theorem i157_141 : INS 157 141 = some (18, 1, 20, 0, .null, []) := rfl
set_option maxRecDepth 100000 in
theorem i157_142 : INS 157 142 = some (0, 2, 4, 0, .null, []) := rfl
set_option maxRecDepth 100000 in
theorem i157_144 : INS 157 144 = some (3, 1, 9, 0, .null, []) := rfl
set_option maxRecDepth 100000 in
theorem i157_145 : INS 157 145 = some (2, 1, 0, 0, .int 1, []) := rfl
set_option maxRecDepth 100000 in
theorem i157_146 : INS 157 146 = some (3, 1, 5, 0, .null, []) := rfl
set_option maxRecDepth 100000 in
theorem i157_147 : INS 157 147 = some (9, 3, 154, 1, .null, []) := rfl
set_option maxRecDepth 100000 in
theorem i157_150 : INS 157 150 = some (2, 1, 0, 0, .int 1, []) := rfl
set_option maxRecDepth 100000 in
theorem i157_151 : INS 157 151 = some (12, 3, 155, 0, .null, []) := rfl
set_option maxRecDepth 100000 in
theorem i157_154 : INS 157 154 = some (2, 1, 0, 0, .int 0, []) := rfl
set_option maxRecDepth 100000 in
theorem i157_155 : INS 157 155 = some (27, 1, 0, 0, .null, []) := rfl
set_option maxRecDepth 100000 in
theorem i157_156 : INS 157 156 = some (0, 1, 0, 2, .null, []) := rfl
set_option maxRecDepth 100000 in
theorem i157_157 : INS 157 157 = some (16, 3, 11, 9, .null, []) := rfl
set_option maxRecDepth 100000 in
theorem i157_160 : INS 157 160 = some (0, 1, 2, 0, .null, []) := rfl
set_option maxRecDepth 100000 in
theorem i157_161 : INS 157 161 = some (18, 1, 20, 0, .null, []) := rfl
set_option maxRecDepth 100000 in
theorem i157_162 : INS 157 162 = some (0, 2, 4, 0, .null, []) := rfl
set_option maxRecDepth 100000 in
theorem i157_164 : INS 157 164 = some (10, 3, 187, 0, .null, []) := rfl
set_option maxRecDepth 100000 in
theorem i157_167 : INS 157 167 = some (0, 1, 0, 2, .null, []) := rfl
set_option maxRecDepth 100000 in
theorem i157_168 : INS 157 168 = some (0, 2, 6, 0, .null, []) := rfl
set_option maxRecDepth 100000 in
theorem i157_170 : INS 157 170 = some (0, 1, 0, 2, .null, []) := rfl
set_option maxRecDepth 100000 in
theorem i157_171 : INS 157 171 = some (16, 3, 11, 10, .null, []) := rfl
set_option maxRecDepth 100000 in
theorem i157_174 : INS 157 174 = some (0, 1, 2, 0, .null, []) := rfl
set_option maxRecDepth 100000 in
theorem i157_175 : INS 157 175 = some (18, 1, 20, 0, .null, []) := rfl
set_option maxRecDepth 100000 in
theorem i157_176 : INS 157 176 = some (0, 1, 3, 0, .null, []) := rfl
set_option maxRecDepth 100000 in
theorem i157_177 : INS 157 177 = some (24, 3, 158, 0, .null, []) := rfl
set_option maxRecDepth 100000 in
theorem i157_180 : INS 157 180 = some (9, 3, 187, 0, .null, []) := rfl
set_option maxRecDepth 100000 in
theorem i157_183 : INS 157 183 = some (2, 1, 0, 0, .int 1, []) := rfl
set_option maxRecDepth 100000 in
theorem i157_184 : INS 157 184 = some (12, 3, 188, 0, .null, []) := rfl
set_option maxRecDepth 100000 in
theorem i157_187 : INS 157 187 = some (2, 1, 0, 0, .int 0, []) := rfl
set_option maxRecDepth 100000 in
theorem i157_188 : INS 157 188 = some (27, 1, 0, 0, .null, []) := rfl
set_option maxRecDepth 100000 in
theorem i157_189 : INS 157 189 = some (2, 1, 0, 0, .int 1, []) := rfl
set_option maxRecDepth 100000 in
theorem i157_190 : INS 157 190 = some (27, 1, 0, 0, .null, []) := rfl
set_option maxRecDepth 100000 in
theorem i157_191 : INS 157 191 = some (2, 1, 0, 0, .int 0, []) := rfl
set_option maxRecDepth 100000 in
theorem i157_192 : INS 157 192 = some (27, 1, 0, 0, .null, []) := rfl
set_option maxRecDepth 100000 in
theorem i158_0 : INS 158 0 = some (0, 1, 0, 2, .null, []) := rfl
set_option maxRecDepth 100000 in
theorem i158_1 : INS 158 1 = some (16, 3, 11, 5, .null, []) := rfl
set_option maxRecDepth 100000 in
theorem i158_4 : INS 158 4 = some (2, 1, 0, 0, .int 2, []) := rfl
set_option maxRecDepth 100000 in
theorem i158_5 : INS 158 5 = some (0, 1, 2, 0, .null, []) := rfl
set_option maxRecDepth 100000 in
theorem i158_6 : INS 158 6 = some (3, 1, 2, 0, .null, []) := rfl
set_option maxRecDepth 100000 in
theorem i158_7 : INS 158 7 = some (18, 1, 20, 0, .null, []) := rfl
set_option maxRecDepth 100000 in
theorem i158_8 : INS 158 8 = some (0, 1, 3, 0, .null, []) := rfl
set_option maxRecDepth 100000 in
theorem i158_9 : INS 158 9 = some (10, 3, 41, 1, .null, []) := rfl
set_option maxRecDepth 100000 in
theorem i158_12 : INS 158 12 = some (0, 1, 0, 2, .null, []) := rfl
set_option maxRecDepth 100000 in
theorem i158_13 : INS 158 13 = some (16, 3, 11, 21, .null, []) := rfl
set_option maxRecDepth 100000 in
theorem i158_16 : INS 158 16 = some (2, 1, 0, 0, .int 2, []) := rfl
set_option maxRecDepth 100000 in
theorem i158_17 : INS 158 17 = some (0, 1, 1, 0, .null, []) := rfl
set_option maxRecDepth 100000 in
theorem i158_18 : INS 158 18 = some (3, 1, 2, 0, .null, []) := rfl
set_option maxRecDepth 100000 in
theorem i158_19 : INS 158 19 = some (18, 1, 20, 0, .null, []) := rfl
set_option maxRecDepth 100000 in
theorem i158_20 : INS 158 20 = some (2, 1, 0, 0, .int 2, []) := rfl
set_option maxRecDepth 100000 in
theorem i158_21 : INS 158 21 = some (0, 1, 0, 2, .null, []) := rfl
set_option maxRecDepth 100000 in
theorem i158_22 : INS 158 22 = some (16, 3, 11, 6, .null, []) := rfl
set_option maxRecDepth 100000 in
theorem i158_25 : INS 158 25 = some (2, 1, 0, 0, .int 2, []) := rfl
set_option maxRecDepth 100000 in
theorem i158_26 : INS 158 26 = some (0, 1, 2, 0, .null, []) := rfl
set_option maxRecDepth 100000 in
theorem i158_27 : INS 158 27 = some (3, 1, 2, 0, .null, []) := rfl
set_option maxRecDepth 100000 in
theorem i158_28 : INS 158 28 = some (18, 1, 20, 0, .null, []) := rfl
set_option maxRecDepth 100000 in
theorem i158_29 : INS 158 29 = some (3, 1, 2, 0, .null, []) := rfl
set_option maxRecDepth 100000 in
theorem i158_30 : INS 158 30 = some (10, 3, 37, 3, .null, []) := rfl
set_option maxRecDepth 100000 in
theorem i158_33 : INS 158 33 = some (2, 1, 0, 0, .int 1, []) := rfl
set_option maxRecDepth 100000 in
theorem i158_34 : INS 158 34 = some (12, 3, 85, 0, .null, []) := rfl
set_option maxRecDepth 100000 in
theorem i158_37 : INS 158 37 = some (2, 1, 0, 0, .int 0, []) := rfl
set_option maxRecDepth 100000 in
theorem i158_38 : INS 158 38 = some (12, 3, 85, 0, .null, []) := rfl
set_option maxRecDepth 100000 in
theorem i158_41 : INS 158 41 = some (0, 1, 0, 2, .null, []) := rfl
set_option maxRecDepth 100000 in
theorem i158_42 : INS 158 42 = some (16, 3, 11, 5, .null, []) := rfl
set_option maxRecDepth 100000 in
theorem i158_45 : INS 158 45 = some (2, 1, 0, 0, .int 2, []) := rfl
set_option maxRecDepth 100000 in
theorem i158_46 : INS 158 46 = some (0, 1, 2, 0, .null, []) := rfl
set_option maxRecDepth 100000 in
theorem i158_47 : INS 158 47 = some (3, 1, 2, 0, .null, []) := rfl
set_option maxRecDepth 100000 in
theorem i158_48 : INS 158 48 = some (2, 1, 0, 0, .int 1, []) := rfl
set_option maxRecDepth 100000 in
theorem i158_49 : INS 158 49 = some (3, 1, 0, 0, .null, []) := rfl
set_option maxRecDepth 100000 in
theorem i158_50 : INS 158 50 = some (18, 1, 20, 0, .null, []) := rfl
set_option maxRecDepth 100000 in
theorem i158_51 : INS 158 51 = some (0, 1, 3, 0, .null, []) := rfl
set_option maxRecDepth 100000 in
theorem i158_52 : INS 158 52 = some (10, 3, 84, 1, .null, []) := rfl
set_option maxRecDepth 100000 in
theorem i158_55 : INS 158 55 = some (0, 1, 0, 2, .null, []) := rfl
set_option maxRecDepth 100000 in
theorem i158_56 : INS 158 56 = some (16, 3, 11, 21, .null, []) := rfl
set_option maxRecDepth 100000 in
theorem i158_59 : INS 158 59 = some (2, 1, 0, 0, .int 2, []) := rfl
set_option maxRecDepth 100000 in
theorem i158_60 : INS 158 60 = some (0, 1, 1, 0, .null, []) := rfl
set_option maxRecDepth 100000 in
theorem i158_61 : INS 158 61 = some (3, 1, 2, 0, .null, []) := rfl
set_option maxRecDepth 100000 in
theorem i158_62 : INS 158 62 = some (2, 1, 0, 0, .int 1, []) := rfl
set_option maxRecDepth 100000 in
theorem i158_63 : INS 158 63 = some (3, 1, 0, 0, .null, []) := rfl
set_option maxRecDepth 100000 in
theorem i158_64 : INS 158 64 = some (18, 1, 20, 0, .null, []) := rfl
set_option maxRecDepth 100000 in
theorem i158_65 : INS 158 65 = some (2, 1, 0, 0, .int 2, []) := rfl
set_option maxRecDepth 100000 in
theorem i158_66 : INS 158 66 = some (0, 1, 0, 2, .null, []) := rfl
set_option maxRecDepth 100000 in
theorem i158_67 : INS 158 67 = some (16, 3, 11, 6, .null, []) := rfl
set_option maxRecDepth 100000 in
theorem i158_70 : INS 158 70 = some (2, 1, 0, 0, .int 2, []) := rfl
set_option maxRecDepth 100000 in
theorem i158_71 : INS 158 71 = some (0, 1, 2, 0, .null, []) := rfl
set_option maxRecDepth 100000 in
theorem i158_72 : INS 158 72 = some (3, 1, 2, 0, .null, []) := rfl
set_option maxRecDepth 100000 in
theorem i158_73 : INS 158 73 = some (2, 1, 0, 0, .int 1, []) := rfl
set_option maxRecDepth 100000 in
theorem i158_74 : INS 158 74 = some (3, 1, 0, 0, .null, []) := rfl
set_option maxRecDepth 100000 in
theorem i158_75 : INS 158 75 = some (18, 1, 20, 0, .null, []) := rfl
set_option maxRecDepth 100000 in
theorem i158_76 : INS 158 76 = some (3, 1, 2, 0, .null, []) := rfl
set_option maxRecDepth 100000 in
theorem i158_77 : INS 158 77 = some (10, 3, 84, 3, .null, []) := rfl
set_option maxRecDepth 100000 in
theorem i158_80 : INS 158 80 = some (2, 1, 0, 0, .int 1, []) := rfl
set_option maxRecDepth 100000 in
theorem i158_81 : INS 158 81 = some (12, 3, 85, 0, .null, []) := rfl
set_option maxRecDepth 100000 in
theorem i158_84 : INS 158 84 = some (2, 1, 0, 0, .int 0, []) := rfl
set_option maxRecDepth 100000 in
theorem i158_85 : INS 158 85 = some (27, 1, 0, 0, .null, []) := rfl
set_option maxRecDepth 100000 in
theorem i159_0 : INS 159 0 = some (0, 1, 0, 2, .null, []) := rfl
set_option maxRecDepth 100000 in
theorem i159_1 : INS 159 1 = some (16, 3, 11, 31, .null, []) := rfl
set_option maxRecDepth 100000 in
theorem i159_4 : INS 159 4 = some (0, 1, 3, 0, .null, []) := rfl
set_option maxRecDepth 100000 in
theorem i159_5 : INS 159 5 = some (18, 1, 20, 0, .null, []) := rfl
set_option maxRecDepth 100000 in
theorem i159_6 : INS 159 6 = some (2, 1, 0, 0, .int (-1), []) := rfl
set_option maxRecDepth 100000 in
theorem i159_7 : INS 159 7 = some (10, 3, 21, 0, .null, []) := rfl
set_option maxRecDepth 100000 in
theorem i159_10 : INS 159 10 = some (0, 2, 5, 0, .null, []) := rfl
set_option maxRecDepth 100000 in
theorem i159_12 : INS 159 12 = some (0, 1, 0, 2, .null, []) := rfl
set_option maxRecDepth 100000 in
theorem i159_13 : INS 159 13 = some (16, 3, 11, 32, .null, []) := rfl
set_option maxRecDepth 100000 in
theorem i159_16 : INS 159 16 = some (0, 1, 3, 0, .null, []) := rfl
set_option maxRecDepth 100000 in
theorem i159_17 : INS 159 17 = some (18, 1, 20, 0, .null, []) := rfl
set_option maxRecDepth 100000 in
theorem i159_18 : INS 159 18 = some (10, 3, 44, 3, .null, []) := rfl
set_option maxRecDepth 100000 in
theorem i159_21 : INS 159 21 = some (0, 1, 0, 2, .null, []) := rfl
set_option maxRecDepth 100000 in
theorem i159_22 : INS 159 22 = some (16, 3, 11, 31, .null, []) := rfl
set_option maxRecDepth 100000 in
theorem i159_25 : INS 159 25 = some (0, 1, 3, 0, .null, []) := rfl
set_option maxRecDepth 100000 in
theorem i159_26 : INS 159 26 = some (0, 1, 2, 0, .null, []) := rfl
set_option maxRecDepth 100000 in
theorem i159_27 : INS 159 27 = some (19, 1, 20, 0, .null, []) := rfl
set_option maxRecDepth 100000 in
theorem i159_28 : INS 159 28 = some (0, 1, 0, 2, .null, []) := rfl
set_option maxRecDepth 100000 in
theorem i159_29 : INS 159 29 = some (16, 3, 11, 32, .null, []) := rfl
set_option maxRecDepth 100000 in
theorem i159_32 : INS 159 32 = some (0, 1, 3, 0, .null, []) := rfl
set_option maxRecDepth 100000 in
theorem i159_33 : INS 159 33 = some (0, 2, 5, 0, .null, []) := rfl
set_option maxRecDepth 100000 in
theorem i159_35 : INS 159 35 = some (19, 1, 20, 0, .null, []) := rfl
set_option maxRecDepth 100000 in
theorem i159_36 : INS 159 36 = some (0, 1, 0, 2, .null, []) := rfl
set_option maxRecDepth 100000 in
theorem i159_37 : INS 159 37 = some (16, 3, 11, 33, .null, []) := rfl
set_option maxRecDepth 100000 in
theorem i159_40 : INS 159 40 = some (0, 1, 3, 0, .null, []) := rfl
set_option maxRecDepth 100000 in
theorem i159_41 : INS 159 41 = some (0, 2, 4, 0, .null, []) := rfl
set_option maxRecDepth 100000 in
theorem i159_43 : INS 159 43 = some (19, 1, 20, 0, .null, []) := rfl
set_option maxRecDepth 100000 in
theorem i159_44 : INS 159 44 = some (27, 1, 3, 0, .null, []) := rfl
set_option maxRecDepth 100000 in
theorem i160_0 : INS 160 0 = some (0, 1, 2, 0, .null, []) := rfl
set_option maxRecDepth 100000 in
theorem i160_1 : INS 160 1 = some (1, 2, 4, 0, .null, []) := rfl
set_option maxRecDepth 100000 in
theorem i160_3 : INS 160 3 = some (2, 1, 0, 0, .int 1, []) := rfl
set_option maxRecDepth 100000 in
theorem i160_4 : INS 160 4 = some (1, 2, 5, 0, .null, []) := rfl
set_option maxRecDepth 100000 in
theorem i160_6 : INS 160 6 = some (0, 2, 5, 0, .null, []) := rfl
set_option maxRecDepth 100000 in
theorem i160_8 : INS 160 8 = some (2, 1, 0, 0, .int 5, []) := rfl
set_option maxRecDepth 100000 in
theorem i160_9 : INS 160 9 = some (10, 3, 108, 4, .null, []) := rfl
set_option maxRecDepth 100000 in
theorem i160_12 : INS 160 12 = some (0, 2, 4, 0, .null, []) := rfl
set_option maxRecDepth 100000 in
theorem i160_14 : INS 160 14 = some (0, 1, 0, 2, .null, []) := rfl
set_option maxRecDepth 100000 in
theorem i160_15 : INS 160 15 = some (16, 3, 11, 9, .null, []) := rfl
set_option maxRecDepth 100000 in
theorem i160_18 : INS 160 18 = some (0, 1, 2, 0, .null, []) := rfl
set_option maxRecDepth 100000 in
theorem i160_19 : INS 160 19 = some (18, 1, 20, 0, .null, []) := rfl
set_option maxRecDepth 100000 in
theorem i160_20 : INS 160 20 = some (24, 3, 127, 2, .null, []) := rfl
set_option maxRecDepth 100000 in
theorem i160_23 : INS 160 23 = some (1, 2, 4, 0, .null, []) := rfl
set_option maxRecDepth 100000 in
theorem i160_25 : INS 160 25 = some (0, 2, 4, 0, .null, []) := rfl
set_option maxRecDepth 100000 in
theorem i160_27 : INS 160 27 = some (2, 1, 0, 0, .int (-1), []) := rfl
set_option maxRecDepth 100000 in
theorem i160_28 : INS 160 28 = some (10, 3, 32, 1, .null, []) := rfl
set_option maxRecDepth 100000 in
theorem i160_31 : INS 160 31 = some (27, 1, 3, 0, .null, []) := rfl
set_option maxRecDepth 100000 in
theorem i160_32 : INS 160 32 = some (0, 1, 0, 2, .null, []) := rfl
set_option maxRecDepth 100000 in
theorem i160_33 : INS 160 33 = some (16, 3, 11, 8, .null, []) := rfl
set_option maxRecDepth 100000 in
theorem i160_36 : INS 160 36 = some (0, 2, 4, 0, .null, []) := rfl
set_option maxRecDepth 100000 in
theorem i160_38 : INS 160 38 = some (18, 1, 20, 0, .null, []) := rfl
set_option maxRecDepth 100000 in
theorem i160_39 : INS 160 39 = some (2, 1, 0, 0, .int 3, []) := rfl
set_option maxRecDepth 100000 in
theorem i160_40 : INS 160 40 = some (10, 3, 102, 1, .null, []) := rfl
set_option maxRecDepth 100000 in
theorem i160_43 : INS 160 43 = some (0, 1, 0, 2, .null, []) := rfl
set_option maxRecDepth 100000 in
theorem i160_44 : INS 160 44 = some (16, 3, 11, 9, .null, []) := rfl
set_option maxRecDepth 100000 in
theorem i160_47 : INS 160 47 = some (0, 2, 4, 0, .null, []) := rfl
set_option maxRecDepth 100000 in
theorem i160_49 : INS 160 49 = some (18, 1, 20, 0, .null, []) := rfl
set_option maxRecDepth 100000 in
theorem i160_50 : INS 160 50 = some (0, 1, 0, 2, .null, []) := rfl
set_option maxRecDepth 100000 in
theorem i160_51 : INS 160 51 = some (16, 3, 11, 9, .null, []) := rfl
set_option maxRecDepth 100000 in
theorem i160_54 : INS 160 54 = some (0, 1, 2, 0, .null, []) := rfl
set_option maxRecDepth 100000 in
theorem i160_55 : INS 160 55 = some (18, 1, 20, 0, .null, []) := rfl
set_option maxRecDepth 100000 in
theorem i160_56 : INS 160 56 = some (10, 3, 102, 1, .null, []) := rfl
set_option maxRecDepth 100000 in
theorem i160_59 : INS 160 59 = some (0, 1, 0, 2, .null, []) := rfl
set_option maxRecDepth 100000 in
theorem i160_60 : INS 160 60 = some (0, 1, 1, 0, .null, []) := rfl
set_option maxRecDepth 100000 in
theorem i160_61 : INS 160 61 = some (0, 2, 4, 0, .null, []) := rfl
set_option maxRecDepth 100000 in
theorem i160_63 : INS 160 63 = some (0, 1, 3, 0, .null, []) := rfl
set_option maxRecDepth 100000 in
theorem i160_64 : INS 160 64 = some (0, 1, 0, 2, .null, []) := rfl
set_option maxRecDepth 100000 in
theorem i160_65 : INS 160 65 = some (16, 3, 11, 9, .null, []) := rfl
set_option maxRecDepth 100000 in
theorem i160_68 : INS 160 68 = some (0, 1, 2, 0, .null, []) := rfl
set_option maxRecDepth 100000 in
theorem i160_69 : INS 160 69 = some (18, 1, 20, 0, .null, []) := rfl
set_option maxRecDepth 100000 in
theorem i160_70 : INS 160 70 = some (2, 1, 0, 0, .int 2, []) := rfl
set_option maxRecDepth 100000 in
theorem i160_71 : INS 160 71 = some (3, 1, 0, 0, .null, []) := rfl
set_option maxRecDepth 100000 in
theorem i160_72 : INS 160 72 = some (2, 1, 0, 0, .int 4, []) := rfl
set_option maxRecDepth 100000 in
theorem i160_73 : INS 160 73 = some (3, 1, 4, 0, .null, []) := rfl
set_option maxRecDepth 100000 in
theorem i160_74 : INS 160 74 = some (0, 1, 2, 0, .null, []) := rfl
set_option maxRecDepth 100000 in
theorem i160_75 : INS 160 75 = some (24, 3, 157, 0, .null, []) := rfl
set_option maxRecDepth 100000 in
theorem i160_78 : INS 160 78 = some (9, 3, 101, 0, .null, []) := rfl
set_option maxRecDepth 100000 in
theorem i160_81 : INS 160 81 = some (0, 1, 0, 2, .null, []) := rfl
set_option maxRecDepth 100000 in
theorem i160_82 : INS 160 82 = some (0, 1, 1, 0, .null, []) := rfl
set_option maxRecDepth 100000 in
theorem i160_83 : INS 160 83 = some (0, 1, 2, 0, .null, []) := rfl
set_option maxRecDepth 100000 in
theorem i160_84 : INS 160 84 = some (0, 2, 4, 0, .null, []) := rfl
set_option maxRecDepth 100000 in
theorem i160_86 : INS 160 86 = some (0, 1, 0, 2, .null, []) := rfl
set_option maxRecDepth 100000 in
theorem i160_87 : INS 160 87 = some (16, 3, 11, 9, .null, []) := rfl
set_option maxRecDepth 100000 in
theorem i160_90 : INS 160 90 = some (0, 1, 2, 0, .null, []) := rfl
set_option maxRecDepth 100000 in
theorem i160_91 : INS 160 91 = some (18, 1, 20, 0, .null, []) := rfl
set_option maxRecDepth 100000 in
theorem i160_92 : INS 160 92 = some (2, 1, 0, 0, .int 2, []) := rfl
set_option maxRecDepth 100000 in
theorem i160_93 : INS 160 93 = some (3, 1, 0, 0, .null, []) := rfl
set_option maxRecDepth 100000 in
theorem i160_94 : INS 160 94 = some (2, 1, 0, 0, .int 4, []) := rfl
set_option maxRecDepth 100000 in
theorem i160_95 : INS 160 95 = some (3, 1, 4, 0, .null, []) := rfl
set_option maxRecDepth 100000 in
theorem i160_96 : INS 160 96 = some (0, 2, 5, 0, .null, []) := rfl
set_option maxRecDepth 100000 in
theorem i160_98 : INS 160 98 = some (24, 3, 159, 0, .null, []) := rfl
set_option maxRecDepth 100000 in
theorem i160_101 : INS 160 101 = some (27, 1, 3, 0, .null, []) := rfl
set_option maxRecDepth 100000 in
theorem i160_102 : INS 160 102 = some (15, 3, 5, 0, .int 1, []) := rfl
set_option maxRecDepth 100000 in
theorem i160_105 : INS 160 105 = some (12, 3, 6, 0, .null, []) := rfl
set_option maxRecDepth 100000 in
theorem i160_108 : INS 160 108 = some (27, 1, 3, 0, .null, []) := rfl
set_option maxRecDepth 100000 in
theorem i161_0 : INS 161 0 = some (0, 1, 2, 0, .null, []) := rfl
set_option maxRecDepth 100000 in
theorem i161_1 : INS 161 1 = some (0, 1, 3, 0, .null, []) := rfl
set_option maxRecDepth 100000 in
theorem i161_2 : INS 161 2 = some (24, 3, 127, 2, .null, []) := rfl
set_option maxRecDepth 100000 in
theorem i161_5 : INS 161 5 = some (1, 2, 5, 0, .null, []) := rfl
set_option maxRecDepth 100000 in
theorem i161_7 : INS 161 7 = some (0, 1, 3, 0, .null, []) := rfl
set_option maxRecDepth 100000 in
theorem i161_8 : INS 161 8 = some (2, 1, 0, 0, .int 2, []) := rfl
set_option maxRecDepth 100000 in
theorem i161_9 : INS 161 9 = some (3, 1, 0, 0, .null, []) := rfl
set_option maxRecDepth 100000 in
theorem i161_10 : INS 161 10 = some (2, 1, 0, 0, .int 4, []) := rfl
set_option maxRecDepth 100000 in
theorem i161_11 : INS 161 11 = some (3, 1, 4, 0, .null, []) := rfl
set_option maxRecDepth 100000 in
theorem i161_12 : INS 161 12 = some (1, 2, 6, 0, .null, []) := rfl
set_option maxRecDepth 100000 in
theorem i161_14 : INS 161 14 = some (0, 2, 5, 0, .null, []) := rfl
set_option maxRecDepth 100000 in
theorem i161_16 : INS 161 16 = some (2, 1, 0, 0, .int (-1), []) := rfl
set_option maxRecDepth 100000 in
theorem i161_17 : INS 161 17 = some (10, 3, 35, 0, .null, []) := rfl
set_option maxRecDepth 100000 in
theorem i161_20 : INS 161 20 = some (0, 1, 0, 2, .null, []) := rfl
set_option maxRecDepth 100000 in
theorem i161_21 : INS 161 21 = some (0, 1, 1, 0, .null, []) := rfl
set_option maxRecDepth 100000 in
theorem i161_22 : INS 161 22 = some (0, 2, 5, 0, .null, []) := rfl
set_option maxRecDepth 100000 in
theorem i161_24 : INS 161 24 = some (0, 2, 4, 0, .null, []) := rfl
set_option maxRecDepth 100000 in
theorem i161_26 : INS 161 26 = some (0, 2, 6, 0, .null, []) := rfl
set_option maxRecDepth 100000 in
theorem i161_28 : INS 161 28 = some (0, 1, 2, 0, .null, []) := rfl
set_option maxRecDepth 100000 in
theorem i161_29 : INS 161 29 = some (24, 3, 157, 0, .null, []) := rfl
set_option maxRecDepth 100000 in
theorem i161_32 : INS 161 32 = some (9, 3, 37, 1, .null, []) := rfl
set_option maxRecDepth 100000 in
theorem i161_35 : INS 161 35 = some (2, 1, 0, 0, .int 0, []) := rfl
set_option maxRecDepth 100000 in
theorem i161_36 : INS 161 36 = some (27, 1, 0, 0, .null, []) := rfl
set_option maxRecDepth 100000 in
theorem i161_37 : INS 161 37 = some (0, 1, 0, 2, .null, []) := rfl
set_option maxRecDepth 100000 in
theorem i161_38 : INS 161 38 = some (0, 1, 1, 0, .null, []) := rfl
set_option maxRecDepth 100000 in
theorem i161_39 : INS 161 39 = some (0, 1, 2, 0, .null, []) := rfl
set_option maxRecDepth 100000 in
theorem i161_40 : INS 161 40 = some (0, 2, 5, 0, .null, []) := rfl
set_option maxRecDepth 100000 in
theorem i161_42 : INS 161 42 = some (0, 2, 6, 0, .null, []) := rfl
set_option maxRecDepth 100000 in
theorem i161_44 : INS 161 44 = some (0, 2, 6, 0, .null, []) := rfl
set_option maxRecDepth 100000 in
theorem i161_46 : INS 161 46 = some (0, 1, 0, 2, .null, []) := rfl
set_option maxRecDepth 100000 in
theorem i161_47 : INS 161 47 = some (16, 3, 11, 22, .null, []) := rfl
set_option maxRecDepth 100000 in
theorem i161_50 : INS 161 50 = some (2, 3, 0, 0, .int 144, []) := rfl
set_option maxRecDepth 100000 in
theorem i161_53 : INS 161 53 = some (0, 1, 1, 0, .null, []) := rfl
set_option maxRecDepth 100000 in
theorem i161_54 : INS 161 54 = some (3, 1, 2, 0, .null, []) := rfl
set_option maxRecDepth 100000 in
theorem i161_55 : INS 161 55 = some (0, 2, 5, 0, .null, []) := rfl
set_option maxRecDepth 100000 in
theorem i161_57 : INS 161 57 = some (3, 1, 0, 0, .null, []) := rfl
set_option maxRecDepth 100000 in
theorem i161_58 : INS 161 58 = some (18, 1, 20, 0, .null, []) := rfl
set_option maxRecDepth 100000 in
theorem i161_59 : INS 161 59 = some (3, 1, 1, 0, .null, []) := rfl
set_option maxRecDepth 100000 in
theorem i161_60 : INS 161 60 = some (2, 2, 0, 0, .int 7, []) := rfl
set_option maxRecDepth 100000 in
theorem i161_62 : INS 161 62 = some (3, 1, 0, 0, .null, []) := rfl
set_option maxRecDepth 100000 in
theorem i161_63 : INS 161 63 = some (2, 1, 0, 0, .int 4, []) := rfl
set_option maxRecDepth 100000 in
theorem i161_64 : INS 161 64 = some (3, 1, 4, 0, .null, []) := rfl
set_option maxRecDepth 100000 in
theorem i161_65 : INS 161 65 = some (24, 3, 159, 0, .null, []) := rfl
set_option maxRecDepth 100000 in
theorem i161_68 : INS 161 68 = some (2, 1, 0, 0, .int 1, []) := rfl
set_option maxRecDepth 100000 in
theorem i161_69 : INS 161 69 = some (27, 1, 0, 0, .null, []) := rfl
set_option maxRecDepth 100000 in
theorem i162_0 : INS 162 0 = some (2, 1, 0, 0, .int 0, []) := rfl
set_option maxRecDepth 100000 in
theorem i162_1 : INS 162 1 = some (1, 1, 2, 0, .null, []) := rfl
set_option maxRecDepth 100000 in
theorem i162_2 : INS 162 2 = some (0, 1, 2, 0, .null, []) := rfl
set_option maxRecDepth 100000 in
theorem i162_3 : INS 162 3 = some (2, 3, 0, 0, .int 144, []) := rfl
set_option maxRecDepth 100000 in
theorem i162_6 : INS 162 6 = some (10, 3, 113, 3, .null, []) := rfl
set_option maxRecDepth 100000 in
theorem i162_9 : INS 162 9 = some (2, 3, 0, 0, .int 144, []) := rfl
set_option maxRecDepth 100000 in
theorem i162_12 : INS 162 12 = some (0, 1, 1, 0, .null, []) := rfl
set_option maxRecDepth 100000 in
theorem i162_13 : INS 162 13 = some (3, 1, 2, 0, .null, []) := rfl
set_option maxRecDepth 100000 in
theorem i162_14 : INS 162 14 = some (0, 1, 2, 0, .null, []) := rfl
set_option maxRecDepth 100000 in
theorem i162_15 : INS 162 15 = some (3, 1, 0, 0, .null, []) := rfl
set_option maxRecDepth 100000 in
theorem i162_16 : INS 162 16 = some (1, 1, 3, 0, .null, []) := rfl
set_option maxRecDepth 100000 in
theorem i162_17 : INS 162 17 = some (0, 1, 0, 2, .null, []) := rfl
set_option maxRecDepth 100000 in
theorem i162_18 : INS 162 18 = some (16, 3, 11, 31, .null, []) := rfl
set_option maxRecDepth 100000 in
theorem i162_21 : INS 162 21 = some (0, 1, 2, 0, .null, []) := rfl
set_option maxRecDepth 100000 in
theorem i162_22 : INS 162 22 = some (2, 1, 0, 0, .int (-1), []) := rfl
set_option maxRecDepth 100000 in
theorem i162_23 : INS 162 23 = some (19, 1, 20, 0, .null, []) := rfl
set_option maxRecDepth 100000 in
theorem i162_24 : INS 162 24 = some (0, 1, 0, 2, .null, []) := rfl
set_option maxRecDepth 100000 in
theorem i162_25 : INS 162 25 = some (16, 3, 11, 8, .null, []) := rfl
set_option maxRecDepth 100000 in
theorem i162_28 : INS 162 28 = some (0, 1, 2, 0, .null, []) := rfl
set_option maxRecDepth 100000 in
theorem i162_29 : INS 162 29 = some (18, 1, 20, 0, .null, []) := rfl
set_option maxRecDepth 100000 in
theorem i162_30 : INS 162 30 = some (2, 1, 0, 0, .int 5, []) := rfl
set_option maxRecDepth 100000 in
theorem i162_31 : INS 162 31 = some (10, 3, 90, 1, .null, []) := rfl
set_option maxRecDepth 100000 in
theorem i162_34 : INS 162 34 = some (0, 1, 0, 2, .null, []) := rfl
set_option maxRecDepth 100000 in
theorem i162_35 : INS 162 35 = some (16, 3, 11, 16, .null, []) := rfl
set_option maxRecDepth 100000 in
theorem i162_38 : INS 162 38 = some (0, 1, 3, 0, .null, []) := rfl
set_option maxRecDepth 100000 in
theorem i162_39 : INS 162 39 = some (18, 1, 20, 0, .null, []) := rfl
set_option maxRecDepth 100000 in
theorem i162_40 : INS 162 40 = some (9, 3, 90, 1, .null, []) := rfl
set_option maxRecDepth 100000 in
theorem i162_43 : INS 162 43 = some (0, 1, 0, 2, .null, []) := rfl
set_option maxRecDepth 100000 in
theorem i162_44 : INS 162 44 = some (16, 3, 11, 17, .null, []) := rfl
set_option maxRecDepth 100000 in
theorem i162_47 : INS 162 47 = some (0, 1, 3, 0, .null, []) := rfl
set_option maxRecDepth 100000 in
theorem i162_48 : INS 162 48 = some (8, 1, 2, 0, .null, []) := rfl
set_option maxRecDepth 100000 in
theorem i162_49 : INS 162 49 = some (18, 1, 20, 0, .null, []) := rfl
set_option maxRecDepth 100000 in
theorem i162_50 : INS 162 50 = some (2, 1, 0, 0, .int 1, []) := rfl
set_option maxRecDepth 100000 in
theorem i162_51 : INS 162 51 = some (3, 1, 0, 0, .null, []) := rfl
set_option maxRecDepth 100000 in
theorem i162_52 : INS 162 52 = some (19, 1, 20, 0, .null, []) := rfl
set_option maxRecDepth 100000 in
theorem i162_53 : INS 162 53 = some (0, 1, 0, 2, .null, []) := rfl
set_option maxRecDepth 100000 in
theorem i162_54 : INS 162 54 = some (16, 3, 11, 17, .null, []) := rfl
set_option maxRecDepth 100000 in
theorem i162_57 : INS 162 57 = some (0, 1, 3, 0, .null, []) := rfl
set_option maxRecDepth 100000 in
theorem i162_58 : INS 162 58 = some (18, 1, 20, 0, .null, []) := rfl
set_option maxRecDepth 100000 in
theorem i162_59 : INS 162 59 = some (0, 1, 0, 2, .null, []) := rfl
set_option maxRecDepth 100000 in
theorem i162_60 : INS 162 60 = some (16, 3, 11, 11, .null, []) := rfl
set_option maxRecDepth 100000 in
theorem i162_63 : INS 162 63 = some (0, 1, 2, 0, .null, []) := rfl
set_option maxRecDepth 100000 in
theorem i162_64 : INS 162 64 = some (18, 1, 20, 0, .null, []) := rfl
set_option maxRecDepth 100000 in
theorem i162_65 : INS 162 65 = some (10, 3, 107, 1, .null, []) := rfl
set_option maxRecDepth 100000 in
theorem i162_68 : INS 162 68 = some (0, 1, 0, 2, .null, []) := rfl
set_option maxRecDepth 100000 in
theorem i162_69 : INS 162 69 = some (16, 3, 11, 16, .null, []) := rfl
set_option maxRecDepth 100000 in
theorem i162_72 : INS 162 72 = some (0, 1, 3, 0, .null, []) := rfl
set_option maxRecDepth 100000 in
theorem i162_73 : INS 162 73 = some (0, 1, 0, 2, .null, []) := rfl
set_option maxRecDepth 100000 in
theorem i162_74 : INS 162 74 = some (16, 3, 11, 10, .null, []) := rfl
set_option maxRecDepth 100000 in
theorem i162_77 : INS 162 77 = some (0, 1, 2, 0, .null, []) := rfl
set_option maxRecDepth 100000 in
theorem i162_78 : INS 162 78 = some (18, 1, 20, 0, .null, []) := rfl
set_option maxRecDepth 100000 in
theorem i162_79 : INS 162 79 = some (19, 1, 20, 0, .null, []) := rfl
set_option maxRecDepth 100000 in
theorem i162_80 : INS 162 80 = some (0, 1, 0, 2, .null, []) := rfl
set_option maxRecDepth 100000 in
theorem i162_81 : INS 162 81 = some (16, 3, 11, 17, .null, []) := rfl
set_option maxRecDepth 100000 in
theorem i162_84 : INS 162 84 = some (0, 1, 3, 0, .null, []) := rfl
set_option maxRecDepth 100000 in
theorem i162_85 : INS 162 85 = some (2, 1, 0, 0, .int 0, []) := rfl
set_option maxRecDepth 100000 in
theorem i162_86 : INS 162 86 = some (19, 1, 20, 0, .null, []) := rfl
set_option maxRecDepth 100000 in
theorem i162_87 : INS 162 87 = some (12, 3, 107, 0, .null, []) := rfl
set_option maxRecDepth 100000 in
theorem i162_90 : INS 162 90 = some (0, 1, 0, 2, .null, []) := rfl
set_option maxRecDepth 100000 in
theorem i162_91 : INS 162 91 = some (16, 3, 11, 8, .null, []) := rfl
set_option maxRecDepth 100000 in
theorem i162_94 : INS 162 94 = some (0, 1, 2, 0, .null, []) := rfl
set_option maxRecDepth 100000 in
theorem i162_95 : INS 162 95 = some (18, 1, 20, 0, .null, []) := rfl
set_option maxRecDepth 100000 in
theorem i162_96 : INS 162 96 = some (2, 2, 0, 0, .int 6, []) := rfl
set_option maxRecDepth 100000 in
theorem i162_98 : INS 162 98 = some (10, 3, 107, 1, .null, []) := rfl
set_option maxRecDepth 100000 in
theorem i162_101 : INS 162 101 = some (0, 1, 0, 2, .null, []) := rfl
set_option maxRecDepth 100000 in
theorem i162_102 : INS 162 102 = some (0, 1, 1, 0, .null, []) := rfl
set_option maxRecDepth 100000 in
theorem i162_103 : INS 162 103 = some (0, 1, 2, 0, .null, []) := rfl
set_option maxRecDepth 100000 in
theorem i162_104 : INS 162 104 = some (24, 3, 155, 0, .null, []) := rfl
set_option maxRecDepth 100000 in
theorem i162_107 : INS 162 107 = some (15, 3, 2, 0, .int 1, []) := rfl
set_option maxRecDepth 100000 in
theorem i162_110 : INS 162 110 = some (12, 3, 2, 0, .null, []) := rfl
set_option maxRecDepth 100000 in
theorem i162_113 : INS 162 113 = some (2, 1, 0, 0, .int 0, []) := rfl
set_option maxRecDepth 100000 in
theorem i162_114 : INS 162 114 = some (1, 1, 2, 0, .null, []) := rfl
set_option maxRecDepth 100000 in
theorem i162_115 : INS 162 115 = some (0, 1, 2, 0, .null, []) := rfl
set_option maxRecDepth 100000 in
theorem i162_116 : INS 162 116 = some (2, 3, 0, 0, .int 144, []) := rfl
set_option maxRecDepth 100000 in
theorem i162_119 : INS 162 119 = some (10, 3, 279, 3, .null, []) := rfl
set_option maxRecDepth 100000 in
theorem i162_122 : INS 162 122 = some (0, 1, 0, 2, .null, []) := rfl
set_option maxRecDepth 100000 in
theorem i162_123 : INS 162 123 = some (16, 3, 11, 8, .null, []) := rfl
set_option maxRecDepth 100000 in
theorem i162_126 : INS 162 126 = some (0, 1, 2, 0, .null, []) := rfl
set_option maxRecDepth 100000 in
theorem i162_127 : INS 162 127 = some (18, 1, 20, 0, .null, []) := rfl
set_option maxRecDepth 100000 in
theorem i162_128 : INS 162 128 = some (9, 3, 135, 1, .null, []) := rfl
set_option maxRecDepth 100000 in
theorem i162_131 : INS 162 131 = some (2, 1, 0, 0, .int 0, []) := rfl
set_option maxRecDepth 100000 in
theorem i162_132 : INS 162 132 = some (12, 3, 141, 0, .null, []) := rfl
set_option maxRecDepth 100000 in
theorem i162_135 : INS 162 135 = some (0, 1, 0, 2, .null, []) := rfl
set_option maxRecDepth 100000 in
theorem i162_136 : INS 162 136 = some (0, 1, 1, 0, .null, []) := rfl
set_option maxRecDepth 100000 in
theorem i162_137 : INS 162 137 = some (0, 1, 2, 0, .null, []) := rfl
set_option maxRecDepth 100000 in
theorem i162_138 : INS 162 138 = some (24, 3, 156, 0, .null, []) := rfl
set_option maxRecDepth 100000 in
theorem i162_141 : INS 162 141 = some (1, 1, 3, 0, .null, []) := rfl
set_option maxRecDepth 100000 in
theorem i162_142 : INS 162 142 = some (0, 1, 3, 0, .null, []) := rfl
set_option maxRecDepth 100000 in
theorem i162_143 : INS 162 143 = some (9, 3, 166, 0, .null, []) := rfl
set_option maxRecDepth 100000 in
theorem i162_146 : INS 162 146 = some (0, 1, 0, 2, .null, []) := rfl
set_option maxRecDepth 100000 in
theorem i162_147 : INS 162 147 = some (16, 3, 11, 8, .null, []) := rfl
set_option maxRecDepth 100000 in
theorem i162_150 : INS 162 150 = some (0, 1, 2, 0, .null, []) := rfl
set_option maxRecDepth 100000 in
theorem i162_151 : INS 162 151 = some (18, 1, 20, 0, .null, []) := rfl
set_option maxRecDepth 100000 in
theorem i162_152 : INS 162 152 = some (2, 1, 0, 0, .int 2, []) := rfl
set_option maxRecDepth 100000 in
theorem i162_153 : INS 162 153 = some (10, 3, 166, 1, .null, []) := rfl
set_option maxRecDepth 100000 in
theorem i162_156 : INS 162 156 = some (0, 1, 0, 2, .null, []) := rfl
set_option maxRecDepth 100000 in
theorem i162_157 : INS 162 157 = some (0, 1, 1, 0, .null, []) := rfl
set_option maxRecDepth 100000 in
theorem i162_158 : INS 162 158 = some (0, 1, 2, 0, .null, []) := rfl
set_option maxRecDepth 100000 in
theorem i162_159 : INS 162 159 = some (0, 1, 3, 0, .null, []) := rfl
set_option maxRecDepth 100000 in
theorem i162_160 : INS 162 160 = some (24, 3, 160, 0, .null, []) := rfl
set_option maxRecDepth 100000 in
theorem i162_163 : INS 162 163 = some (12, 3, 273, 0, .null, []) := rfl
set_option maxRecDepth 100000 in
theorem i162_166 : INS 162 166 = some (0, 1, 3, 0, .null, []) := rfl
set_option maxRecDepth 100000 in
theorem i162_167 : INS 162 167 = some (9, 3, 254, 0, .null, []) := rfl
set_option maxRecDepth 100000 in
theorem i162_170 : INS 162 170 = some (0, 1, 0, 2, .null, []) := rfl
set_option maxRecDepth 100000 in
theorem i162_171 : INS 162 171 = some (16, 3, 11, 8, .null, []) := rfl
set_option maxRecDepth 100000 in
theorem i162_174 : INS 162 174 = some (0, 1, 2, 0, .null, []) := rfl
set_option maxRecDepth 100000 in
theorem i162_175 : INS 162 175 = some (18, 1, 20, 0, .null, []) := rfl
set_option maxRecDepth 100000 in
theorem i162_176 : INS 162 176 = some (2, 1, 0, 0, .int 4, []) := rfl
set_option maxRecDepth 100000 in
theorem i162_177 : INS 162 177 = some (10, 3, 254, 1, .null, []) := rfl
set_option maxRecDepth 100000 in
theorem i162_180 : INS 162 180 = some (2, 1, 0, 0, .int 0, []) := rfl
set_option maxRecDepth 100000 in
theorem i162_181 : INS 162 181 = some (1, 2, 4, 0, .null, []) := rfl
set_option maxRecDepth 100000 in
theorem i162_183 : INS 162 183 = some (2, 1, 0, 0, .int 1, []) := rfl
set_option maxRecDepth 100000 in
theorem i162_184 : INS 162 184 = some (1, 2, 5, 0, .null, []) := rfl
set_option maxRecDepth 100000 in
theorem i162_186 : INS 162 186 = some (0, 2, 5, 0, .null, []) := rfl
set_option maxRecDepth 100000 in
theorem i162_188 : INS 162 188 = some (2, 1, 0, 0, .int 4, []) := rfl
set_option maxRecDepth 100000 in
theorem i162_189 : INS 162 189 = some (10, 3, 251, 4, .null, []) := rfl
set_option maxRecDepth 100000 in
theorem i162_192 : INS 162 192 = some (0, 2, 4, 0, .null, []) := rfl
set_option maxRecDepth 100000 in
theorem i162_194 : INS 162 194 = some (9, 3, 251, 1, .null, []) := rfl
set_option maxRecDepth 100000 in
theorem i162_197 : INS 162 197 = some (0, 1, 0, 2, .null, []) := rfl
set_option maxRecDepth 100000 in
theorem i162_198 : INS 162 198 = some (16, 3, 11, 23, .null, []) := rfl
set_option maxRecDepth 100000 in
theorem i162_201 : INS 162 201 = some (2, 3, 0, 0, .int 144, []) := rfl
set_option maxRecDepth 100000 in
theorem i162_204 : INS 162 204 = some (0, 1, 1, 0, .null, []) := rfl
set_option maxRecDepth 100000 in
theorem i162_205 : INS 162 205 = some (3, 1, 2, 0, .null, []) := rfl
set_option maxRecDepth 100000 in
theorem i162_206 : INS 162 206 = some (0, 1, 2, 0, .null, []) := rfl
set_option maxRecDepth 100000 in
theorem i162_207 : INS 162 207 = some (3, 1, 0, 0, .null, []) := rfl
set_option maxRecDepth 100000 in
theorem i162_208 : INS 162 208 = some (18, 1, 20, 0, .null, []) := rfl
set_option maxRecDepth 100000 in
theorem i162_209 : INS 162 209 = some (0, 2, 5, 0, .null, []) := rfl
set_option maxRecDepth 100000 in
theorem i162_211 : INS 162 211 = some (3, 1, 0, 0, .null, []) := rfl
set_option maxRecDepth 100000 in
theorem i162_212 : INS 162 212 = some (2, 1, 0, 0, .int 4, []) := rfl
set_option maxRecDepth 100000 in
theorem i162_213 : INS 162 213 = some (3, 1, 4, 0, .null, []) := rfl
set_option maxRecDepth 100000 in
theorem i162_214 : INS 162 214 = some (1, 2, 6, 0, .null, []) := rfl
set_option maxRecDepth 100000 in
theorem i162_216 : INS 162 216 = some (0, 1, 0, 2, .null, []) := rfl
set_option maxRecDepth 100000 in
theorem i162_217 : INS 162 217 = some (0, 1, 2, 0, .null, []) := rfl
set_option maxRecDepth 100000 in
theorem i162_218 : INS 162 218 = some (0, 2, 6, 0, .null, []) := rfl
set_option maxRecDepth 100000 in
theorem i162_220 : INS 162 220 = some (24, 3, 128, 0, .null, []) := rfl
set_option maxRecDepth 100000 in
theorem i162_223 : INS 162 223 = some (9, 3, 242, 0, .null, []) := rfl
set_option maxRecDepth 100000 in
theorem i162_226 : INS 162 226 = some (0, 1, 0, 2, .null, []) := rfl
set_option maxRecDepth 100000 in
theorem i162_227 : INS 162 227 = some (0, 1, 1, 0, .null, []) := rfl
set_option maxRecDepth 100000 in
theorem i162_228 : INS 162 228 = some (0, 1, 2, 0, .null, []) := rfl
set_option maxRecDepth 100000 in
theorem i162_229 : INS 162 229 = some (0, 2, 6, 0, .null, []) := rfl
set_option maxRecDepth 100000 in
theorem i162_231 : INS 162 231 = some (0, 1, 3, 0, .null, []) := rfl
set_option maxRecDepth 100000 in
theorem i162_232 : INS 162 232 = some (24, 3, 161, 0, .null, []) := rfl
set_option maxRecDepth 100000 in
theorem i162_235 : INS 162 235 = some (9, 3, 242, 0, .null, []) := rfl
set_option maxRecDepth 100000 in
theorem i162_238 : INS 162 238 = some (2, 1, 0, 0, .int 1, []) := rfl
set_option maxRecDepth 100000 in
theorem i162_239 : INS 162 239 = some (12, 3, 243, 0, .null, []) := rfl
set_option maxRecDepth 100000 in
theorem i162_242 : INS 162 242 = some (2, 1, 0, 0, .int 0, []) := rfl
set_option maxRecDepth 100000 in
theorem i162_243 : INS 162 243 = some (1, 2, 4, 0, .null, []) := rfl
set_option maxRecDepth 100000 in
theorem i162_245 : INS 162 245 = some (15, 3, 5, 0, .int 1, []) := rfl
set_option maxRecDepth 100000 in
theorem i162_248 : INS 162 248 = some (12, 3, 186, 0, .null, []) := rfl
set_option maxRecDepth 100000 in
theorem i162_251 : INS 162 251 = some (12, 3, 273, 0, .null, []) := rfl
set_option maxRecDepth 100000 in
theorem i162_254 : INS 162 254 = some (0, 1, 3, 0, .null, []) := rfl
set_option maxRecDepth 100000 in
theorem i162_255 : INS 162 255 = some (9, 3, 273, 0, .null, []) := rfl
set_option maxRecDepth 100000 in
theorem i162_258 : INS 162 258 = some (0, 1, 0, 2, .null, []) := rfl
set_option maxRecDepth 100000 in
theorem i162_259 : INS 162 259 = some (0, 1, 1, 0, .null, []) := rfl
set_option maxRecDepth 100000 in
theorem i162_260 : INS 162 260 = some (0, 1, 2, 0, .null, []) := rfl
set_option maxRecDepth 100000 in
theorem i162_261 : INS 162 261 = some (0, 1, 0, 2, .null, []) := rfl
set_option maxRecDepth 100000 in
theorem i162_262 : INS 162 262 = some (16, 3, 11, 9, .null, []) := rfl
set_option maxRecDepth 100000 in
theorem i162_265 : INS 162 265 = some (0, 1, 2, 0, .null, []) := rfl
set_option maxRecDepth 100000 in
theorem i162_266 : INS 162 266 = some (18, 1, 20, 0, .null, []) := rfl
set_option maxRecDepth 100000 in
theorem i162_267 : INS 162 267 = some (0, 1, 3, 0, .null, []) := rfl
set_option maxRecDepth 100000 in
theorem i162_268 : INS 162 268 = some (24, 3, 161, 0, .null, []) := rfl
set_option maxRecDepth 100000 in
theorem i162_271 : INS 162 271 = some (1, 2, 4, 0, .null, []) := rfl
set_option maxRecDepth 100000 in
theorem i162_273 : INS 162 273 = some (15, 3, 2, 0, .int 1, []) := rfl
set_option maxRecDepth 100000 in
theorem i162_276 : INS 162 276 = some (12, 3, 115, 0, .null, []) := rfl
set_option maxRecDepth 100000 in
theorem i162_279 : INS 162 279 = some (2, 1, 0, 0, .int 0, []) := rfl
set_option maxRecDepth 100000 in
theorem i162_280 : INS 162 280 = some (1, 1, 2, 0, .null, []) := rfl
set_option maxRecDepth 100000 in
theorem i162_281 : INS 162 281 = some (0, 1, 2, 0, .null, []) := rfl
set_option maxRecDepth 100000 in
theorem i162_282 : INS 162 282 = some (2, 3, 0, 0, .int 144, []) := rfl
set_option maxRecDepth 100000 in
theorem i162_285 : INS 162 285 = some (10, 3, 325, 3, .null, []) := rfl
set_option maxRecDepth 100000 in
theorem i162_288 : INS 162 288 = some (0, 1, 0, 2, .null, []) := rfl
set_option maxRecDepth 100000 in
theorem i162_289 : INS 162 289 = some (16, 3, 11, 34, .null, []) := rfl
set_option maxRecDepth 100000 in
theorem i162_292 : INS 162 292 = some (0, 1, 2, 0, .null, []) := rfl
set_option maxRecDepth 100000 in
theorem i162_293 : INS 162 293 = some (0, 1, 0, 2, .null, []) := rfl
set_option maxRecDepth 100000 in
theorem i162_294 : INS 162 294 = some (16, 3, 11, 31, .null, []) := rfl
set_option maxRecDepth 100000 in
theorem i162_297 : INS 162 297 = some (0, 1, 2, 0, .null, []) := rfl
set_option maxRecDepth 100000 in
theorem i162_298 : INS 162 298 = some (18, 1, 20, 0, .null, []) := rfl
set_option maxRecDepth 100000 in
theorem i162_299 : INS 162 299 = some (2, 1, 0, 0, .int (-1), []) := rfl
set_option maxRecDepth 100000 in
theorem i162_300 : INS 162 300 = some (10, 3, 307, 1, .null, []) := rfl
set_option maxRecDepth 100000 in
theorem i162_303 : INS 162 303 = some (2, 1, 0, 0, .int 0, []) := rfl
set_option maxRecDepth 100000 in
theorem i162_304 : INS 162 304 = some (12, 3, 318, 0, .null, []) := rfl
set_option maxRecDepth 100000 in
theorem i162_307 : INS 162 307 = some (0, 1, 0, 2, .null, []) := rfl
set_option maxRecDepth 100000 in
theorem i162_308 : INS 162 308 = some (0, 1, 1, 0, .null, []) := rfl
set_option maxRecDepth 100000 in
theorem i162_309 : INS 162 309 = some (0, 1, 0, 2, .null, []) := rfl
set_option maxRecDepth 100000 in
theorem i162_310 : INS 162 310 = some (16, 3, 11, 31, .null, []) := rfl
set_option maxRecDepth 100000 in
theorem i162_313 : INS 162 313 = some (0, 1, 2, 0, .null, []) := rfl
set_option maxRecDepth 100000 in
theorem i162_314 : INS 162 314 = some (18, 1, 20, 0, .null, []) := rfl
set_option maxRecDepth 100000 in
theorem i162_315 : INS 162 315 = some (24, 3, 156, 0, .null, []) := rfl
set_option maxRecDepth 100000 in
theorem i162_318 : INS 162 318 = some (19, 1, 20, 0, .null, []) := rfl
set_option maxRecDepth 100000 in
theorem i162_319 : INS 162 319 = some (15, 3, 2, 0, .int 1, []) := rfl
set_option maxRecDepth 100000 in
theorem i162_322 : INS 162 322 = some (12, 3, 281, 0, .null, []) := rfl
set_option maxRecDepth 100000 in
theorem i162_325 : INS 162 325 = some (2, 1, 0, 0, .int 0, []) := rfl
set_option maxRecDepth 100000 in
theorem i162_326 : INS 162 326 = some (1, 1, 2, 0, .null, []) := rfl
set_option maxRecDepth 100000 in
theorem i162_327 : INS 162 327 = some (0, 1, 2, 0, .null, []) := rfl
set_option maxRecDepth 100000 in
theorem i162_328 : INS 162 328 = some (2, 3, 0, 0, .int 144, []) := rfl
set_option maxRecDepth 100000 in
theorem i162_331 : INS 162 331 = some (10, 3, 371, 3, .null, []) := rfl
set_option maxRecDepth 100000 in
theorem i162_334 : INS 162 334 = some (0, 1, 0, 2, .null, []) := rfl
set_option maxRecDepth 100000 in
theorem i162_335 : INS 162 335 = some (16, 3, 11, 31, .null, []) := rfl
set_option maxRecDepth 100000 in
theorem i162_338 : INS 162 338 = some (0, 1, 2, 0, .null, []) := rfl
set_option maxRecDepth 100000 in
theorem i162_339 : INS 162 339 = some (18, 1, 20, 0, .null, []) := rfl
set_option maxRecDepth 100000 in
theorem i162_340 : INS 162 340 = some (2, 1, 0, 0, .int (-1), []) := rfl
set_option maxRecDepth 100000 in
theorem i162_341 : INS 162 341 = some (10, 3, 365, 0, .null, []) := rfl
set_option maxRecDepth 100000 in
theorem i162_344 : INS 162 344 = some (0, 1, 0, 2, .null, []) := rfl
set_option maxRecDepth 100000 in
theorem i162_345 : INS 162 345 = some (0, 1, 1, 0, .null, []) := rfl
set_option maxRecDepth 100000 in
theorem i162_346 : INS 162 346 = some (0, 1, 0, 2, .null, []) := rfl
set_option maxRecDepth 100000 in
theorem i162_347 : INS 162 347 = some (16, 3, 11, 31, .null, []) := rfl
set_option maxRecDepth 100000 in
theorem i162_350 : INS 162 350 = some (0, 1, 2, 0, .null, []) := rfl
set_option maxRecDepth 100000 in
theorem i162_351 : INS 162 351 = some (18, 1, 20, 0, .null, []) := rfl
set_option maxRecDepth 100000 in
theorem i162_352 : INS 162 352 = some (0, 1, 0, 2, .null, []) := rfl
set_option maxRecDepth 100000 in
theorem i162_353 : INS 162 353 = some (16, 3, 11, 33, .null, []) := rfl
set_option maxRecDepth 100000 in
theorem i162_356 : INS 162 356 = some (0, 1, 2, 0, .null, []) := rfl
set_option maxRecDepth 100000 in
theorem i162_357 : INS 162 357 = some (18, 1, 20, 0, .null, []) := rfl
set_option maxRecDepth 100000 in
theorem i162_358 : INS 162 358 = some (2, 1, 0, 0, .int 2, []) := rfl
set_option maxRecDepth 100000 in
theorem i162_359 : INS 162 359 = some (3, 1, 0, 0, .null, []) := rfl
set_option maxRecDepth 100000 in
theorem i162_360 : INS 162 360 = some (2, 1, 0, 0, .int 4, []) := rfl
set_option maxRecDepth 100000 in
theorem i162_361 : INS 162 361 = some (3, 1, 4, 0, .null, []) := rfl
set_option maxRecDepth 100000 in
theorem i162_362 : INS 162 362 = some (24, 3, 163, 0, .null, []) := rfl
set_option maxRecDepth 100000 in
theorem i162_365 : INS 162 365 = some (15, 3, 2, 0, .int 1, []) := rfl
set_option maxRecDepth 100000 in
theorem i162_368 : INS 162 368 = some (12, 3, 327, 0, .null, []) := rfl
set_option maxRecDepth 100000 in
theorem i162_371 : INS 162 371 = some (2, 1, 0, 0, .int 0, []) := rfl
set_option maxRecDepth 100000 in
theorem i162_372 : INS 162 372 = some (1, 1, 2, 0, .null, []) := rfl
set_option maxRecDepth 100000 in
theorem i162_373 : INS 162 373 = some (0, 1, 2, 0, .null, []) := rfl
set_option maxRecDepth 100000 in
theorem i162_374 : INS 162 374 = some (2, 3, 0, 0, .int 144, []) := rfl
set_option maxRecDepth 100000 in
theorem i162_377 : INS 162 377 = some (10, 3, 408, 3, .null, []) := rfl
set_option maxRecDepth 100000 in
theorem i162_380 : INS 162 380 = some (0, 1, 0, 2, .null, []) := rfl
set_option maxRecDepth 100000 in
theorem i162_381 : INS 162 381 = some (16, 3, 11, 31, .null, []) := rfl
set_option maxRecDepth 100000 in
theorem i162_384 : INS 162 384 = some (0, 1, 2, 0, .null, []) := rfl
set_option maxRecDepth 100000 in
theorem i162_385 : INS 162 385 = some (18, 1, 20, 0, .null, []) := rfl
set_option maxRecDepth 100000 in
theorem i162_386 : INS 162 386 = some (2, 1, 0, 0, .int (-1), []) := rfl
set_option maxRecDepth 100000 in
theorem i162_387 : INS 162 387 = some (10, 3, 402, 0, .null, []) := rfl
set_option maxRecDepth 100000 in
theorem i162_390 : INS 162 390 = some (0, 1, 0, 2, .null, []) := rfl
set_option maxRecDepth 100000 in
theorem i162_391 : INS 162 391 = some (0, 1, 1, 0, .null, []) := rfl
set_option maxRecDepth 100000 in
theorem i162_392 : INS 162 392 = some (0, 1, 2, 0, .null, []) := rfl
set_option maxRecDepth 100000 in
theorem i162_393 : INS 162 393 = some (0, 1, 0, 2, .null, []) := rfl
set_option maxRecDepth 100000 in
theorem i162_394 : INS 162 394 = some (16, 3, 11, 34, .null, []) := rfl
set_option maxRecDepth 100000 in
theorem i162_397 : INS 162 397 = some (0, 1, 2, 0, .null, []) := rfl
set_option maxRecDepth 100000 in
theorem i162_398 : INS 162 398 = some (18, 1, 20, 0, .null, []) := rfl
set_option maxRecDepth 100000 in
theorem i162_399 : INS 162 399 = some (24, 3, 164, 0, .null, []) := rfl
set_option maxRecDepth 100000 in
theorem i162_402 : INS 162 402 = some (15, 3, 2, 0, .int 1, []) := rfl
set_option maxRecDepth 100000 in
theorem i162_405 : INS 162 405 = some (12, 3, 373, 0, .null, []) := rfl
set_option maxRecDepth 100000 in
theorem i162_408 : INS 162 408 = some (27, 1, 3, 0, .null, []) := rfl
set_option maxRecDepth 100000 in
theorem i163_0 : INS 163 0 = some (2, 3, 0, 0, .int 144, []) := rfl
set_option maxRecDepth 100000 in
theorem i163_3 : INS 163 3 = some (0, 1, 1, 0, .null, []) := rfl
set_option maxRecDepth 100000 in
theorem i163_4 : INS 163 4 = some (3, 1, 2, 0, .null, []) := rfl
set_option maxRecDepth 100000 in
theorem i163_5 : INS 163 5 = some (0, 1, 2, 0, .null, []) := rfl
set_option maxRecDepth 100000 in
theorem i163_6 : INS 163 6 = some (3, 1, 0, 0, .null, []) := rfl
set_option maxRecDepth 100000 in
theorem i163_7 : INS 163 7 = some (1, 2, 4, 0, .null, []) := rfl
set_option maxRecDepth 100000 in
theorem i163_9 : INS 163 9 = some (0, 1, 0, 2, .null, []) := rfl
set_option maxRecDepth 100000 in
theorem i163_10 : INS 163 10 = some (16, 3, 11, 8, .null, []) := rfl
set_option maxRecDepth 100000 in
theorem i163_13 : INS 163 13 = some (0, 1, 2, 0, .null, []) := rfl
set_option maxRecDepth 100000 in
theorem i163_14 : INS 163 14 = some (18, 1, 20, 0, .null, []) := rfl
set_option maxRecDepth 100000 in
theorem i163_15 : INS 163 15 = some (2, 2, 0, 0, .int 6, []) := rfl
set_option maxRecDepth 100000 in
theorem i163_17 : INS 163 17 = some (10, 3, 34, 1, .null, []) := rfl
set_option maxRecDepth 100000 in
theorem i163_20 : INS 163 20 = some (0, 1, 0, 2, .null, []) := rfl
set_option maxRecDepth 100000 in
theorem i163_21 : INS 163 21 = some (16, 3, 11, 18, .null, []) := rfl
set_option maxRecDepth 100000 in
theorem i163_24 : INS 163 24 = some (0, 2, 4, 0, .null, []) := rfl
set_option maxRecDepth 100000 in
theorem i163_26 : INS 163 26 = some (8, 1, 2, 0, .null, []) := rfl
set_option maxRecDepth 100000 in
theorem i163_27 : INS 163 27 = some (18, 1, 20, 0, .null, []) := rfl
set_option maxRecDepth 100000 in
theorem i163_28 : INS 163 28 = some (2, 1, 0, 0, .int 1, []) := rfl
set_option maxRecDepth 100000 in
theorem i163_29 : INS 163 29 = some (3, 1, 1, 0, .null, []) := rfl
set_option maxRecDepth 100000 in
theorem i163_30 : INS 163 30 = some (19, 1, 20, 0, .null, []) := rfl
set_option maxRecDepth 100000 in
theorem i163_31 : INS 163 31 = some (12, 3, 42, 0, .null, []) := rfl
set_option maxRecDepth 100000 in
theorem i163_34 : INS 163 34 = some (0, 1, 0, 2, .null, []) := rfl
set_option maxRecDepth 100000 in
theorem i163_35 : INS 163 35 = some (16, 3, 11, 16, .null, []) := rfl
set_option maxRecDepth 100000 in
theorem i163_38 : INS 163 38 = some (0, 2, 4, 0, .null, []) := rfl
set_option maxRecDepth 100000 in
theorem i163_40 : INS 163 40 = some (2, 1, 0, 0, .int 0, []) := rfl
set_option maxRecDepth 100000 in
theorem i163_41 : INS 163 41 = some (19, 1, 20, 0, .null, []) := rfl
set_option maxRecDepth 100000 in
theorem i163_42 : INS 163 42 = some (0, 1, 0, 2, .null, []) := rfl
set_option maxRecDepth 100000 in
theorem i163_43 : INS 163 43 = some (16, 3, 11, 23, .null, []) := rfl
set_option maxRecDepth 100000 in
theorem i163_46 : INS 163 46 = some (0, 2, 4, 0, .null, []) := rfl
set_option maxRecDepth 100000 in
theorem i163_48 : INS 163 48 = some (0, 1, 0, 2, .null, []) := rfl
set_option maxRecDepth 100000 in
theorem i163_49 : INS 163 49 = some (16, 3, 11, 8, .null, []) := rfl
set_option maxRecDepth 100000 in
theorem i163_52 : INS 163 52 = some (0, 1, 2, 0, .null, []) := rfl
set_option maxRecDepth 100000 in
theorem i163_53 : INS 163 53 = some (18, 1, 20, 0, .null, []) := rfl
set_option maxRecDepth 100000 in
theorem i163_54 : INS 163 54 = some (2, 1, 0, 0, .int 4, []) := rfl
set_option maxRecDepth 100000 in
theorem i163_55 : INS 163 55 = some (10, 3, 62, 1, .null, []) := rfl
set_option maxRecDepth 100000 in
theorem i163_58 : INS 163 58 = some (0, 1, 3, 0, .null, []) := rfl
set_option maxRecDepth 100000 in
theorem i163_59 : INS 163 59 = some (12, 3, 69, 0, .null, []) := rfl
set_option maxRecDepth 100000 in
theorem i163_62 : INS 163 62 = some (0, 1, 0, 2, .null, []) := rfl
set_option maxRecDepth 100000 in
theorem i163_63 : INS 163 63 = some (16, 3, 11, 23, .null, []) := rfl
set_option maxRecDepth 100000 in
theorem i163_66 : INS 163 66 = some (0, 2, 4, 0, .null, []) := rfl
set_option maxRecDepth 100000 in
theorem i163_68 : INS 163 68 = some (18, 1, 20, 0, .null, []) := rfl
set_option maxRecDepth 100000 in
theorem i163_69 : INS 163 69 = some (19, 1, 20, 0, .null, []) := rfl
set_option maxRecDepth 100000 in
theorem i163_70 : INS 163 70 = some (0, 1, 0, 2, .null, []) := rfl
set_option maxRecDepth 100000 in
theorem i163_71 : INS 163 71 = some (16, 3, 11, 38, .null, []) := rfl
set_option maxRecDepth 100000 in
theorem i163_74 : INS 163 74 = some (0, 1, 2, 0, .null, []) := rfl
set_option maxRecDepth 100000 in
theorem i163_75 : INS 163 75 = some (8, 1, 2, 0, .null, []) := rfl
set_option maxRecDepth 100000 in
theorem i163_76 : INS 163 76 = some (18, 1, 20, 0, .null, []) := rfl
set_option maxRecDepth 100000 in
theorem i163_77 : INS 163 77 = some (2, 1, 0, 0, .int 1, []) := rfl
set_option maxRecDepth 100000 in
theorem i163_78 : INS 163 78 = some (3, 1, 0, 0, .null, []) := rfl
set_option maxRecDepth 100000 in
theorem i163_79 : INS 163 79 = some (19, 1, 20, 0, .null, []) := rfl
set_option maxRecDepth 100000 in
theorem i163_80 : INS 163 80 = some (0, 1, 0, 2, .null, []) := rfl
set_option maxRecDepth 100000 in
theorem i163_81 : INS 163 81 = some (2, 1, 0, 0, .int 1, []) := rfl
set_option maxRecDepth 100000 in
theorem i163_82 : INS 163 82 = some (17, 3, 11, 36, .null, []) := rfl
set_option maxRecDepth 100000 in
theorem i163_85 : INS 163 85 = some (27, 1, 3, 0, .null, []) := rfl
set_option maxRecDepth 100000 in
theorem i164_0 : INS 164 0 = some (2, 3, 0, 0, .int 144, []) := rfl
set_option maxRecDepth 100000 in
theorem i164_3 : INS 164 3 = some (0, 1, 1, 0, .null, []) := rfl
set_option maxRecDepth 100000 in
theorem i164_4 : INS 164 4 = some (3, 1, 2, 0, .null, []) := rfl
set_option maxRecDepth 100000 in
theorem i164_5 : INS 164 5 = some (0, 1, 2, 0, .null, []) := rfl
set_option maxRecDepth 100000 in
theorem i164_6 : INS 164 6 = some (3, 1, 0, 0, .null, []) := rfl
set_option maxRecDepth 100000 in
theorem i164_7 : INS 164 7 = some (1, 2, 4, 0, .null, []) := rfl
set_option maxRecDepth 100000 in
theorem i164_9 : INS 164 9 = some (0, 1, 0, 2, .null, []) := rfl
set_option maxRecDepth 100000 in
theorem i164_10 : INS 164 10 = some (16, 3, 11, 22, .null, []) := rfl
set_option maxRecDepth 100000 in
theorem i164_13 : INS 164 13 = some (0, 2, 4, 0, .null, []) := rfl
set_option maxRecDepth 100000 in
theorem i164_15 : INS 164 15 = some (0, 1, 0, 2, .null, []) := rfl
set_option maxRecDepth 100000 in
theorem i164_16 : INS 164 16 = some (16, 3, 11, 33, .null, []) := rfl
set_option maxRecDepth 100000 in
theorem i164_19 : INS 164 19 = some (0, 1, 2, 0, .null, []) := rfl
set_option maxRecDepth 100000 in
theorem i164_20 : INS 164 20 = some (18, 1, 20, 0, .null, []) := rfl
set_option maxRecDepth 100000 in
theorem i164_21 : INS 164 21 = some (19, 1, 20, 0, .null, []) := rfl
set_option maxRecDepth 100000 in
theorem i164_22 : INS 164 22 = some (0, 1, 0, 2, .null, []) := rfl
set_option maxRecDepth 100000 in
theorem i164_23 : INS 164 23 = some (16, 3, 11, 37, .null, []) := rfl
set_option maxRecDepth 100000 in
theorem i164_26 : INS 164 26 = some (0, 1, 2, 0, .null, []) := rfl
set_option maxRecDepth 100000 in
theorem i164_27 : INS 164 27 = some (8, 1, 2, 0, .null, []) := rfl
set_option maxRecDepth 100000 in
theorem i164_28 : INS 164 28 = some (18, 1, 20, 0, .null, []) := rfl
set_option maxRecDepth 100000 in
theorem i164_29 : INS 164 29 = some (2, 1, 0, 0, .int 1, []) := rfl
set_option maxRecDepth 100000 in
theorem i164_30 : INS 164 30 = some (3, 1, 0, 0, .null, []) := rfl
set_option maxRecDepth 100000 in
theorem i164_31 : INS 164 31 = some (19, 1, 20, 0, .null, []) := rfl
set_option maxRecDepth 100000 in
theorem i164_32 : INS 164 32 = some (0, 1, 0, 2, .null, []) := rfl
set_option maxRecDepth 100000 in
theorem i164_33 : INS 164 33 = some (16, 3, 11, 8, .null, []) := rfl
set_option maxRecDepth 100000 in
theorem i164_36 : INS 164 36 = some (0, 1, 2, 0, .null, []) := rfl
set_option maxRecDepth 100000 in
theorem i164_37 : INS 164 37 = some (18, 1, 20, 0, .null, []) := rfl
set_option maxRecDepth 100000 in
theorem i164_38 : INS 164 38 = some (2, 2, 0, 0, .int 7, []) := rfl
set_option maxRecDepth 100000 in
theorem i164_40 : INS 164 40 = some (10, 3, 74, 1, .null, []) := rfl
set_option maxRecDepth 100000 in
theorem i164_43 : INS 164 43 = some (0, 1, 0, 2, .null, []) := rfl
set_option maxRecDepth 100000 in
theorem i164_44 : INS 164 44 = some (8, 1, 0, 0, .null, []) := rfl
set_option maxRecDepth 100000 in
theorem i164_45 : INS 164 45 = some (16, 3, 11, 35, .null, []) := rfl
set_option maxRecDepth 100000 in
theorem i164_48 : INS 164 48 = some (2, 1, 0, 0, .int 1, []) := rfl
set_option maxRecDepth 100000 in
theorem i164_49 : INS 164 49 = some (3, 1, 0, 0, .null, []) := rfl
set_option maxRecDepth 100000 in
theorem i164_50 : INS 164 50 = some (17, 3, 11, 35, .null, []) := rfl
set_option maxRecDepth 100000 in
theorem i164_53 : INS 164 53 = some (0, 1, 0, 2, .null, []) := rfl
set_option maxRecDepth 100000 in
theorem i164_54 : INS 164 54 = some (16, 3, 11, 15, .null, []) := rfl
set_option maxRecDepth 100000 in
theorem i164_57 : INS 164 57 = some (0, 1, 3, 0, .null, []) := rfl
set_option maxRecDepth 100000 in
theorem i164_58 : INS 164 58 = some (8, 1, 2, 0, .null, []) := rfl
set_option maxRecDepth 100000 in
theorem i164_59 : INS 164 59 = some (18, 1, 20, 0, .null, []) := rfl
set_option maxRecDepth 100000 in
theorem i164_60 : INS 164 60 = some (0, 1, 1, 0, .null, []) := rfl
set_option maxRecDepth 100000 in
theorem i164_61 : INS 164 61 = some (9, 3, 68, 1, .null, []) := rfl
set_option maxRecDepth 100000 in
theorem i164_64 : INS 164 64 = some (2, 1, 0, 0, .int 1, []) := rfl
set_option maxRecDepth 100000 in
theorem i164_65 : INS 164 65 = some (12, 3, 69, 0, .null, []) := rfl
set_option maxRecDepth 100000 in
theorem i164_68 : INS 164 68 = some (2, 1, 0, 0, .int 0, []) := rfl
set_option maxRecDepth 100000 in
theorem i164_69 : INS 164 69 = some (3, 1, 0, 0, .null, []) := rfl
set_option maxRecDepth 100000 in
theorem i164_70 : INS 164 70 = some (19, 1, 20, 0, .null, []) := rfl
set_option maxRecDepth 100000 in
theorem i164_71 : INS 164 71 = some (12, 3, 135, 0, .null, []) := rfl
set_option maxRecDepth 100000 in
theorem i164_74 : INS 164 74 = some (0, 1, 0, 2, .null, []) := rfl
set_option maxRecDepth 100000 in
theorem i164_75 : INS 164 75 = some (16, 3, 11, 8, .null, []) := rfl
set_option maxRecDepth 100000 in
theorem i164_78 : INS 164 78 = some (0, 1, 2, 0, .null, []) := rfl
set_option maxRecDepth 100000 in
theorem i164_79 : INS 164 79 = some (18, 1, 20, 0, .null, []) := rfl
set_option maxRecDepth 100000 in
theorem i164_80 : INS 164 80 = some (2, 2, 0, 0, .int 6, []) := rfl
set_option maxRecDepth 100000 in
theorem i164_82 : INS 164 82 = some (10, 3, 127, 1, .null, []) := rfl
set_option maxRecDepth 100000 in
theorem i164_85 : INS 164 85 = some (0, 1, 0, 2, .null, []) := rfl
set_option maxRecDepth 100000 in
theorem i164_86 : INS 164 86 = some (16, 3, 11, 21, .null, []) := rfl
set_option maxRecDepth 100000 in
theorem i164_89 : INS 164 89 = some (0, 1, 0, 2, .null, []) := rfl
set_option maxRecDepth 100000 in
theorem i164_90 : INS 164 90 = some (16, 3, 11, 5, .null, []) := rfl
set_option maxRecDepth 100000 in
theorem i164_93 : INS 164 93 = some (2, 1, 0, 0, .int 2, []) := rfl
set_option maxRecDepth 100000 in
theorem i164_94 : INS 164 94 = some (0, 1, 0, 2, .null, []) := rfl
set_option maxRecDepth 100000 in
theorem i164_95 : INS 164 95 = some (16, 3, 11, 10, .null, []) := rfl
set_option maxRecDepth 100000 in
theorem i164_98 : INS 164 98 = some (0, 1, 2, 0, .null, []) := rfl
set_option maxRecDepth 100000 in
theorem i164_99 : INS 164 99 = some (18, 1, 20, 0, .null, []) := rfl
set_option maxRecDepth 100000 in
theorem i164_100 : INS 164 100 = some (3, 1, 2, 0, .null, []) := rfl
set_option maxRecDepth 100000 in
theorem i164_101 : INS 164 101 = some (18, 1, 20, 0, .null, []) := rfl
set_option maxRecDepth 100000 in
theorem i164_102 : INS 164 102 = some (0, 1, 3, 0, .null, []) := rfl
set_option maxRecDepth 100000 in
theorem i164_103 : INS 164 103 = some (10, 3, 113, 1, .null, []) := rfl
set_option maxRecDepth 100000 in
theorem i164_106 : INS 164 106 = some (2, 1, 0, 0, .int 2, []) := rfl
set_option maxRecDepth 100000 in
theorem i164_107 : INS 164 107 = some (0, 2, 4, 0, .null, []) := rfl
set_option maxRecDepth 100000 in
theorem i164_109 : INS 164 109 = some (3, 1, 2, 0, .null, []) := rfl
set_option maxRecDepth 100000 in
theorem i164_110 : INS 164 110 = some (12, 3, 119, 0, .null, []) := rfl
set_option maxRecDepth 100000 in
theorem i164_113 : INS 164 113 = some (2, 1, 0, 0, .int 2, []) := rfl
set_option maxRecDepth 100000 in
theorem i164_114 : INS 164 114 = some (0, 2, 4, 0, .null, []) := rfl
set_option maxRecDepth 100000 in
theorem i164_116 : INS 164 116 = some (3, 1, 2, 0, .null, []) := rfl
set_option maxRecDepth 100000 in
theorem i164_117 : INS 164 117 = some (2, 1, 0, 0, .int 1, []) := rfl
set_option maxRecDepth 100000 in
theorem i164_118 : INS 164 118 = some (3, 1, 0, 0, .null, []) := rfl
set_option maxRecDepth 100000 in
theorem i164_119 : INS 164 119 = some (8, 1, 2, 0, .null, []) := rfl
set_option maxRecDepth 100000 in
theorem i164_120 : INS 164 120 = some (18, 1, 20, 0, .null, []) := rfl
set_option maxRecDepth 100000 in
theorem i164_121 : INS 164 121 = some (2, 1, 0, 0, .int 1, []) := rfl
set_option maxRecDepth 100000 in
theorem i164_122 : INS 164 122 = some (3, 1, 0, 0, .null, []) := rfl
set_option maxRecDepth 100000 in
theorem i164_123 : INS 164 123 = some (19, 1, 20, 0, .null, []) := rfl
set_option maxRecDepth 100000 in
theorem i164_124 : INS 164 124 = some (12, 3, 135, 0, .null, []) := rfl
set_option maxRecDepth 100000 in
theorem i164_127 : INS 164 127 = some (0, 1, 0, 2, .null, []) := rfl
set_option maxRecDepth 100000 in
theorem i164_128 : INS 164 128 = some (16, 3, 11, 16, .null, []) := rfl
set_option maxRecDepth 100000 in
theorem i164_131 : INS 164 131 = some (0, 2, 4, 0, .null, []) := rfl
set_option maxRecDepth 100000 in
theorem i164_133 : INS 164 133 = some (0, 1, 3, 0, .null, []) := rfl
set_option maxRecDepth 100000 in
theorem i164_134 : INS 164 134 = some (19, 1, 20, 0, .null, []) := rfl
set_option maxRecDepth 100000 in
theorem i164_135 : INS 164 135 = some (27, 1, 3, 0, .null, []) := rfl
set_option maxRecDepth 100000 in
theorem i165_0 : INS 165 0 = some (0, 1, 0, 2, .null, []) := rfl
set_option maxRecDepth 100000 in
theorem i165_1 : INS 165 1 = some (2, 1, 0, 0, .int 0, []) := rfl
set_option maxRecDepth 100000 in
theorem i165_2 : INS 165 2 = some (17, 3, 11, 35, .null, []) := rfl
set_option maxRecDepth 100000 in
theorem i165_5 : INS 165 5 = some (0, 1, 0, 2, .null, []) := rfl
set_option maxRecDepth 100000 in
theorem i165_6 : INS 165 6 = some (2, 1, 0, 0, .int 0, []) := rfl
set_option maxRecDepth 100000 in
theorem i165_7 : INS 165 7 = some (17, 3, 11, 36, .null, []) := rfl
set_option maxRecDepth 100000 in
theorem i165_10 : INS 165 10 = some (2, 1, 0, 0, .int 0, []) := rfl
set_option maxRecDepth 100000 in
theorem i165_11 : INS 165 11 = some (1, 1, 1, 0, .null, []) := rfl
set_option maxRecDepth 100000 in
theorem i165_12 : INS 165 12 = some (0, 1, 1, 0, .null, []) := rfl
set_option maxRecDepth 100000 in
theorem i165_13 : INS 165 13 = some (2, 3, 0, 0, .int 144, []) := rfl
set_option maxRecDepth 100000 in
theorem i165_16 : INS 165 16 = some (10, 3, 46, 3, .null, []) := rfl
set_option maxRecDepth 100000 in
theorem i165_19 : INS 165 19 = some (0, 1, 0, 2, .null, []) := rfl
set_option maxRecDepth 100000 in
theorem i165_20 : INS 165 20 = some (16, 3, 11, 37, .null, []) := rfl
set_option maxRecDepth 100000 in
theorem i165_23 : INS 165 23 = some (0, 1, 1, 0, .null, []) := rfl
set_option maxRecDepth 100000 in
theorem i165_24 : INS 165 24 = some (2, 1, 0, 0, .int 0, []) := rfl
set_option maxRecDepth 100000 in
theorem i165_25 : INS 165 25 = some (19, 1, 20, 0, .null, []) := rfl
set_option maxRecDepth 100000 in
theorem i165_26 : INS 165 26 = some (0, 1, 0, 2, .null, []) := rfl
set_option maxRecDepth 100000 in
theorem i165_27 : INS 165 27 = some (16, 3, 11, 38, .null, []) := rfl
set_option maxRecDepth 100000 in
theorem i165_30 : INS 165 30 = some (0, 1, 1, 0, .null, []) := rfl
set_option maxRecDepth 100000 in
theorem i165_31 : INS 165 31 = some (2, 1, 0, 0, .int 0, []) := rfl
set_option maxRecDepth 100000 in
theorem i165_32 : INS 165 32 = some (19, 1, 20, 0, .null, []) := rfl
set_option maxRecDepth 100000 in
theorem i165_33 : INS 165 33 = some (0, 1, 0, 2, .null, []) := rfl
set_option maxRecDepth 100000 in
theorem i165_34 : INS 165 34 = some (16, 3, 11, 39, .null, []) := rfl
set_option maxRecDepth 100000 in
theorem i165_37 : INS 165 37 = some (0, 1, 1, 0, .null, []) := rfl
set_option maxRecDepth 100000 in
theorem i165_38 : INS 165 38 = some (2, 1, 0, 0, .int 0, []) := rfl
set_option maxRecDepth 100000 in
theorem i165_39 : INS 165 39 = some (19, 1, 20, 0, .null, []) := rfl
set_option maxRecDepth 100000 in
theorem i165_40 : INS 165 40 = some (15, 3, 1, 0, .int 1, []) := rfl
set_option maxRecDepth 100000 in
theorem i165_43 : INS 165 43 = some (12, 3, 12, 0, .null, []) := rfl
set_option maxRecDepth 100000 in
theorem i165_46 : INS 165 46 = some (27, 1, 3, 0, .null, []) := rfl
set_option maxRecDepth 100000 in
theorem i166_0 : INS 166 0 = some (0, 1, 1, 0, .null, []) := rfl
set_option maxRecDepth 100000 in
theorem i166_1 : INS 166 1 = some (2, 1, 0, 0, .int 1, []) := rfl
set_option maxRecDepth 100000 in
theorem i166_2 : INS 166 2 = some (2, 3, 0, 0, .int 200, []) := rfl
set_option maxRecDepth 100000 in
theorem i166_5 : INS 166 5 = some (24, 3, 123, 2, .null, []) := rfl
set_option maxRecDepth 100000 in
theorem i166_8 : INS 166 8 = some (9, 3, 18, 1, .null, []) := rfl
set_option maxRecDepth 100000 in
theorem i166_11 : INS 166 11 = some (0, 1, 0, 2, .null, []) := rfl
set_option maxRecDepth 100000 in
theorem i166_12 : INS 166 12 = some (2, 2, 0, 0, .int (-6), []) := rfl
set_option maxRecDepth 100000 in
theorem i166_14 : INS 166 14 = some (24, 3, 124, 0, .null, []) := rfl
set_option maxRecDepth 100000 in
theorem i166_17 : INS 166 17 = some (27, 1, 0, 0, .null, []) := rfl
set_option maxRecDepth 100000 in
theorem i166_18 : INS 166 18 = some (0, 1, 0, 2, .null, []) := rfl
set_option maxRecDepth 100000 in
theorem i166_19 : INS 166 19 = some (16, 3, 11, 14, .null, []) := rfl
set_option maxRecDepth 100000 in
theorem i166_22 : INS 166 22 = some (0, 1, 1, 0, .null, []) := rfl
set_option maxRecDepth 100000 in
theorem i166_23 : INS 166 23 = some (3, 1, 0, 0, .null, []) := rfl
set_option maxRecDepth 100000 in
theorem i166_24 : INS 166 24 = some (2, 3, 0, 0, .int 20000, []) := rfl
set_option maxRecDepth 100000 in
theorem i166_27 : INS 166 27 = some (10, 3, 37, 5, .null, []) := rfl
set_option maxRecDepth 100000 in
theorem i166_30 : INS 166 30 = some (0, 1, 0, 2, .null, []) := rfl
set_option maxRecDepth 100000 in
theorem i166_31 : INS 166 31 = some (2, 2, 0, 0, .int (-7), []) := rfl
set_option maxRecDepth 100000 in
theorem i166_33 : INS 166 33 = some (24, 3, 124, 0, .null, []) := rfl
set_option maxRecDepth 100000 in
theorem i166_36 : INS 166 36 = some (27, 1, 0, 0, .null, []) := rfl
set_option maxRecDepth 100000 in
theorem i166_37 : INS 166 37 = some (0, 1, 0, 2, .null, []) := rfl
set_option maxRecDepth 100000 in
theorem i166_38 : INS 166 38 = some (24, 3, 165, 0, .null, []) := rfl
set_option maxRecDepth 100000 in
theorem i166_41 : INS 166 41 = some (2, 1, 0, 0, .int 0, []) := rfl
set_option maxRecDepth 100000 in
theorem i166_42 : INS 166 42 = some (1, 1, 2, 0, .null, []) := rfl
set_option maxRecDepth 100000 in
theorem i166_43 : INS 166 43 = some (0, 1, 2, 0, .null, []) := rfl
set_option maxRecDepth 100000 in
theorem i166_44 : INS 166 44 = some (0, 1, 1, 0, .null, []) := rfl
set_option maxRecDepth 100000 in
theorem i166_45 : INS 166 45 = some (10, 3, 59, 3, .null, []) := rfl
set_option maxRecDepth 100000 in
theorem i166_48 : INS 166 48 = some (0, 1, 0, 2, .null, []) := rfl
set_option maxRecDepth 100000 in
theorem i166_49 : INS 166 49 = some (2, 1, 0, 0, .int 0, []) := rfl
set_option maxRecDepth 100000 in
theorem i166_50 : INS 166 50 = some (24, 3, 162, 0, .null, []) := rfl
set_option maxRecDepth 100000 in
theorem i166_53 : INS 166 53 = some (15, 3, 2, 0, .int 1, []) := rfl
set_option maxRecDepth 100000 in
theorem i166_56 : INS 166 56 = some (12, 3, 43, 0, .null, []) := rfl
set_option maxRecDepth 100000 in
theorem i166_59 : INS 166 59 = some (0, 1, 0, 2, .null, []) := rfl
set_option maxRecDepth 100000 in
theorem i166_60 : INS 166 60 = some (8, 1, 0, 0, .null, []) := rfl
set_option maxRecDepth 100000 in
theorem i166_61 : INS 166 61 = some (16, 3, 11, 14, .null, []) := rfl
set_option maxRecDepth 100000 in
theorem i166_64 : INS 166 64 = some (0, 1, 1, 0, .null, []) := rfl
set_option maxRecDepth 100000 in
theorem i166_65 : INS 166 65 = some (3, 1, 0, 0, .null, []) := rfl
set_option maxRecDepth 100000 in
theorem i166_66 : INS 166 66 = some (17, 3, 11, 14, .null, []) := rfl
set_option maxRecDepth 100000 in
theorem i166_69 : INS 166 69 = some (2, 1, 0, 0, .int 0, []) := rfl
set_option maxRecDepth 100000 in
theorem i166_70 : INS 166 70 = some (1, 1, 2, 0, .null, []) := rfl
set_option maxRecDepth 100000 in
theorem i166_71 : INS 166 71 = some (0, 1, 2, 0, .null, []) := rfl
set_option maxRecDepth 100000 in
theorem i166_72 : INS 166 72 = some (2, 3, 0, 0, .int 144, []) := rfl
set_option maxRecDepth 100000 in
theorem i166_75 : INS 166 75 = some (10, 3, 114, 3, .null, []) := rfl
set_option maxRecDepth 100000 in
theorem i166_78 : INS 166 78 = some (0, 1, 0, 2, .null, []) := rfl
set_option maxRecDepth 100000 in
theorem i166_79 : INS 166 79 = some (16, 3, 11, 12, .null, []) := rfl
set_option maxRecDepth 100000 in
theorem i166_82 : INS 166 82 = some (0, 1, 2, 0, .null, []) := rfl
set_option maxRecDepth 100000 in
theorem i166_83 : INS 166 83 = some (8, 1, 2, 0, .null, []) := rfl
set_option maxRecDepth 100000 in
theorem i166_84 : INS 166 84 = some (18, 1, 20, 0, .null, []) := rfl
set_option maxRecDepth 100000 in
theorem i166_85 : INS 166 85 = some (0, 1, 0, 2, .null, []) := rfl
set_option maxRecDepth 100000 in
theorem i166_86 : INS 166 86 = some (16, 3, 11, 37, .null, []) := rfl
set_option maxRecDepth 100000 in
theorem i166_89 : INS 166 89 = some (0, 1, 2, 0, .null, []) := rfl
set_option maxRecDepth 100000 in
theorem i166_90 : INS 166 90 = some (18, 1, 20, 0, .null, []) := rfl
set_option maxRecDepth 100000 in
theorem i166_91 : INS 166 91 = some (3, 1, 0, 0, .null, []) := rfl
set_option maxRecDepth 100000 in
theorem i166_92 : INS 166 92 = some (19, 1, 20, 0, .null, []) := rfl
set_option maxRecDepth 100000 in
theorem i166_93 : INS 166 93 = some (0, 1, 0, 2, .null, []) := rfl
set_option maxRecDepth 100000 in
theorem i166_94 : INS 166 94 = some (16, 3, 11, 13, .null, []) := rfl
set_option maxRecDepth 100000 in
theorem i166_97 : INS 166 97 = some (0, 1, 2, 0, .null, []) := rfl
set_option maxRecDepth 100000 in
theorem i166_98 : INS 166 98 = some (8, 1, 2, 0, .null, []) := rfl
set_option maxRecDepth 100000 in
theorem i166_99 : INS 166 99 = some (18, 1, 20, 0, .null, []) := rfl
set_option maxRecDepth 100000 in
theorem i166_100 : INS 166 100 = some (0, 1, 0, 2, .null, []) := rfl
set_option maxRecDepth 100000 in
theorem i166_101 : INS 166 101 = some (16, 3, 11, 38, .null, []) := rfl
set_option maxRecDepth 100000 in
theorem i166_104 : INS 166 104 = some (0, 1, 2, 0, .null, []) := rfl
set_option maxRecDepth 100000 in
theorem i166_105 : INS 166 105 = some (18, 1, 20, 0, .null, []) := rfl
set_option maxRecDepth 100000 in
theorem i166_106 : INS 166 106 = some (3, 1, 0, 0, .null, []) := rfl
set_option maxRecDepth 100000 in
theorem i166_107 : INS 166 107 = some (19, 1, 20, 0, .null, []) := rfl
set_option maxRecDepth 100000 in
theorem i166_108 : INS 166 108 = some (15, 3, 2, 0, .int 1, []) := rfl
set_option maxRecDepth 100000 in
theorem i166_111 : INS 166 111 = some (12, 3, 71, 0, .null, []) := rfl
set_option maxRecDepth 100000 in
theorem i166_114 : INS 166 114 = some (0, 1, 0, 2, .null, []) := rfl
set_option maxRecDepth 100000 in
theorem i166_115 : INS 166 115 = some (16, 3, 11, 35, .null, []) := rfl
set_option maxRecDepth 100000 in
theorem i166_118 : INS 166 118 = some (27, 1, 0, 0, .null, []) := rfl
set_option maxRecDepth 100000 in
theorem i167_0 : INS 167 0 = some (2, 1, 0, 0, .int 0, []) := rfl
set_option maxRecDepth 100000 in
theorem i167_1 : INS 167 1 = some (1, 1, 3, 0, .null, []) := rfl
set_option maxRecDepth 100000 in
theorem i167_2 : INS 167 2 = some (0, 1, 3, 0, .null, []) := rfl
set_option maxRecDepth 100000 in
theorem i167_3 : INS 167 3 = some (2, 3, 0, 0, .int 144, []) := rfl
set_option maxRecDepth 100000 in
theorem i167_6 : INS 167 6 = some (10, 3, 171, 3, .null, []) := rfl
set_option maxRecDepth 100000 in
theorem i167_9 : INS 167 9 = some (2, 3, 0, 0, .int 144, []) := rfl
set_option maxRecDepth 100000 in
theorem i167_12 : INS 167 12 = some (0, 1, 1, 0, .null, []) := rfl
set_option maxRecDepth 100000 in
theorem i167_13 : INS 167 13 = some (3, 1, 2, 0, .null, []) := rfl
set_option maxRecDepth 100000 in
theorem i167_14 : INS 167 14 = some (0, 1, 3, 0, .null, []) := rfl
set_option maxRecDepth 100000 in
theorem i167_15 : INS 167 15 = some (3, 1, 0, 0, .null, []) := rfl
set_option maxRecDepth 100000 in
theorem i167_16 : INS 167 16 = some (1, 2, 4, 0, .null, []) := rfl
set_option maxRecDepth 100000 in
theorem i167_18 : INS 167 18 = some (2, 3, 0, 0, .int 144, []) := rfl
set_option maxRecDepth 100000 in
theorem i167_21 : INS 167 21 = some (0, 1, 2, 0, .null, []) := rfl
set_option maxRecDepth 100000 in
theorem i167_22 : INS 167 22 = some (3, 1, 2, 0, .null, []) := rfl
set_option maxRecDepth 100000 in
theorem i167_23 : INS 167 23 = some (0, 1, 3, 0, .null, []) := rfl
set_option maxRecDepth 100000 in
theorem i167_24 : INS 167 24 = some (3, 1, 0, 0, .null, []) := rfl
set_option maxRecDepth 100000 in
theorem i167_25 : INS 167 25 = some (1, 2, 5, 0, .null, []) := rfl
set_option maxRecDepth 100000 in
theorem i167_27 : INS 167 27 = some (0, 1, 0, 2, .null, []) := rfl
set_option maxRecDepth 100000 in
theorem i167_28 : INS 167 28 = some (16, 3, 11, 16, .null, []) := rfl
set_option maxRecDepth 100000 in
theorem i167_31 : INS 167 31 = some (0, 2, 4, 0, .null, []) := rfl
set_option maxRecDepth 100000 in
theorem i167_33 : INS 167 33 = some (0, 1, 0, 2, .null, []) := rfl
set_option maxRecDepth 100000 in
theorem i167_34 : INS 167 34 = some (16, 3, 11, 16, .null, []) := rfl
set_option maxRecDepth 100000 in
theorem i167_37 : INS 167 37 = some (0, 2, 5, 0, .null, []) := rfl
set_option maxRecDepth 100000 in
theorem i167_39 : INS 167 39 = some (18, 1, 20, 0, .null, []) := rfl
set_option maxRecDepth 100000 in
theorem i167_40 : INS 167 40 = some (19, 1, 20, 0, .null, []) := rfl
set_option maxRecDepth 100000 in
theorem i167_41 : INS 167 41 = some (0, 1, 0, 2, .null, []) := rfl
set_option maxRecDepth 100000 in
theorem i167_42 : INS 167 42 = some (16, 3, 11, 17, .null, []) := rfl
set_option maxRecDepth 100000 in
theorem i167_45 : INS 167 45 = some (0, 2, 4, 0, .null, []) := rfl
set_option maxRecDepth 100000 in
theorem i167_47 : INS 167 47 = some (0, 1, 0, 2, .null, []) := rfl
set_option maxRecDepth 100000 in
theorem i167_48 : INS 167 48 = some (16, 3, 11, 17, .null, []) := rfl
set_option maxRecDepth 100000 in
theorem i167_51 : INS 167 51 = some (0, 2, 5, 0, .null, []) := rfl
set_option maxRecDepth 100000 in
theorem i167_53 : INS 167 53 = some (18, 1, 20, 0, .null, []) := rfl
set_option maxRecDepth 100000 in
theorem i167_54 : INS 167 54 = some (19, 1, 20, 0, .null, []) := rfl
set_option maxRecDepth 100000 in
theorem i167_55 : INS 167 55 = some (0, 1, 0, 2, .null, []) := rfl
set_option maxRecDepth 100000 in
theorem i167_56 : INS 167 56 = some (16, 3, 11, 18, .null, []) := rfl
set_option maxRecDepth 100000 in
theorem i167_59 : INS 167 59 = some (0, 2, 4, 0, .null, []) := rfl
set_option maxRecDepth 100000 in
theorem i167_61 : INS 167 61 = some (0, 1, 0, 2, .null, []) := rfl
set_option maxRecDepth 100000 in
theorem i167_62 : INS 167 62 = some (16, 3, 11, 18, .null, []) := rfl
set_option maxRecDepth 100000 in
theorem i167_65 : INS 167 65 = some (0, 2, 5, 0, .null, []) := rfl
set_option maxRecDepth 100000 in
theorem i167_67 : INS 167 67 = some (18, 1, 20, 0, .null, []) := rfl
set_option maxRecDepth 100000 in
theorem i167_68 : INS 167 68 = some (19, 1, 20, 0, .null, []) := rfl
set_option maxRecDepth 100000 in
theorem i167_69 : INS 167 69 = some (0, 1, 0, 2, .null, []) := rfl
set_option maxRecDepth 100000 in
theorem i167_70 : INS 167 70 = some (16, 3, 11, 19, .null, []) := rfl
set_option maxRecDepth 100000 in
theorem i167_73 : INS 167 73 = some (0, 2, 4, 0, .null, []) := rfl
set_option maxRecDepth 100000 in
theorem i167_75 : INS 167 75 = some (0, 1, 0, 2, .null, []) := rfl
set_option maxRecDepth 100000 in
theorem i167_76 : INS 167 76 = some (16, 3, 11, 19, .null, []) := rfl
set_option maxRecDepth 100000 in
theorem i167_79 : INS 167 79 = some (0, 2, 5, 0, .null, []) := rfl
set_option maxRecDepth 100000 in
theorem i167_81 : INS 167 81 = some (18, 1, 20, 0, .null, []) := rfl
set_option maxRecDepth 100000 in
theorem i167_82 : INS 167 82 = some (19, 1, 20, 0, .null, []) := rfl
set_option maxRecDepth 100000 in
theorem i167_83 : INS 167 83 = some (0, 1, 0, 2, .null, []) := rfl
set_option maxRecDepth 100000 in
theorem i167_84 : INS 167 84 = some (16, 3, 11, 20, .null, []) := rfl
set_option maxRecDepth 100000 in
theorem i167_87 : INS 167 87 = some (0, 2, 4, 0, .null, []) := rfl
set_option maxRecDepth 100000 in
theorem i167_89 : INS 167 89 = some (0, 1, 0, 2, .null, []) := rfl
set_option maxRecDepth 100000 in
theorem i167_90 : INS 167 90 = some (16, 3, 11, 20, .null, []) := rfl
set_option maxRecDepth 100000 in
theorem i167_93 : INS 167 93 = some (0, 2, 5, 0, .null, []) := rfl
set_option maxRecDepth 100000 in
theorem i167_95 : INS 167 95 = some (18, 1, 22, 0, .null, []) := rfl
set_option maxRecDepth 100000 in
theorem i167_96 : INS 167 96 = some (19, 1, 22, 0, .null, []) := rfl
set_option maxRecDepth 100000 in
theorem i167_97 : INS 167 97 = some (0, 1, 0, 2, .null, []) := rfl
set_option maxRecDepth 100000 in
theorem i167_98 : INS 167 98 = some (16, 3, 11, 21, .null, []) := rfl
set_option maxRecDepth 100000 in
theorem i167_101 : INS 167 101 = some (2, 1, 0, 0, .int 2, []) := rfl
set_option maxRecDepth 100000 in
theorem i167_102 : INS 167 102 = some (0, 2, 4, 0, .null, []) := rfl
set_option maxRecDepth 100000 in
theorem i167_104 : INS 167 104 = some (3, 1, 2, 0, .null, []) := rfl
set_option maxRecDepth 100000 in
theorem i167_105 : INS 167 105 = some (0, 1, 0, 2, .null, []) := rfl
set_option maxRecDepth 100000 in
theorem i167_106 : INS 167 106 = some (16, 3, 11, 21, .null, []) := rfl
set_option maxRecDepth 100000 in
theorem i167_109 : INS 167 109 = some (2, 1, 0, 0, .int 2, []) := rfl
set_option maxRecDepth 100000 in
theorem i167_110 : INS 167 110 = some (0, 2, 5, 0, .null, []) := rfl
set_option maxRecDepth 100000 in
theorem i167_112 : INS 167 112 = some (3, 1, 2, 0, .null, []) := rfl
set_option maxRecDepth 100000 in
theorem i167_113 : INS 167 113 = some (18, 1, 20, 0, .null, []) := rfl
set_option maxRecDepth 100000 in
theorem i167_114 : INS 167 114 = some (19, 1, 20, 0, .null, []) := rfl
set_option maxRecDepth 100000 in
theorem i167_115 : INS 167 115 = some (0, 1, 0, 2, .null, []) := rfl
set_option maxRecDepth 100000 in
theorem i167_116 : INS 167 116 = some (16, 3, 11, 21, .null, []) := rfl
set_option maxRecDepth 100000 in
theorem i167_119 : INS 167 119 = some (2, 1, 0, 0, .int 2, []) := rfl
set_option maxRecDepth 100000 in
theorem i167_120 : INS 167 120 = some (0, 2, 4, 0, .null, []) := rfl
set_option maxRecDepth 100000 in
theorem i167_122 : INS 167 122 = some (3, 1, 2, 0, .null, []) := rfl
set_option maxRecDepth 100000 in
theorem i167_123 : INS 167 123 = some (2, 1, 0, 0, .int 1, []) := rfl
set_option maxRecDepth 100000 in
theorem i167_124 : INS 167 124 = some (3, 1, 0, 0, .null, []) := rfl
set_option maxRecDepth 100000 in
theorem i167_125 : INS 167 125 = some (0, 1, 0, 2, .null, []) := rfl
set_option maxRecDepth 100000 in
theorem i167_126 : INS 167 126 = some (16, 3, 11, 21, .null, []) := rfl
set_option maxRecDepth 100000 in
theorem i167_129 : INS 167 129 = some (2, 1, 0, 0, .int 2, []) := rfl
set_option maxRecDepth 100000 in
theorem i167_130 : INS 167 130 = some (0, 2, 5, 0, .null, []) := rfl
set_option maxRecDepth 100000 in
theorem i167_132 : INS 167 132 = some (3, 1, 2, 0, .null, []) := rfl
set_option maxRecDepth 100000 in
theorem i167_133 : INS 167 133 = some (2, 1, 0, 0, .int 1, []) := rfl
set_option maxRecDepth 100000 in
theorem i167_134 : INS 167 134 = some (3, 1, 0, 0, .null, []) := rfl
set_option maxRecDepth 100000 in
theorem i167_135 : INS 167 135 = some (18, 1, 20, 0, .null, []) := rfl
set_option maxRecDepth 100000 in
theorem i167_136 : INS 167 136 = some (19, 1, 20, 0, .null, []) := rfl
set_option maxRecDepth 100000 in
theorem i167_137 : INS 167 137 = some (0, 1, 0, 2, .null, []) := rfl
set_option maxRecDepth 100000 in
theorem i167_138 : INS 167 138 = some (16, 3, 11, 22, .null, []) := rfl
set_option maxRecDepth 100000 in
theorem i167_141 : INS 167 141 = some (0, 2, 4, 0, .null, []) := rfl
set_option maxRecDepth 100000 in
theorem i167_143 : INS 167 143 = some (0, 1, 0, 2, .null, []) := rfl
set_option maxRecDepth 100000 in
theorem i167_144 : INS 167 144 = some (16, 3, 11, 22, .null, []) := rfl
set_option maxRecDepth 100000 in
theorem i167_147 : INS 167 147 = some (0, 2, 5, 0, .null, []) := rfl
set_option maxRecDepth 100000 in
theorem i167_149 : INS 167 149 = some (18, 1, 20, 0, .null, []) := rfl
set_option maxRecDepth 100000 in
theorem i167_150 : INS 167 150 = some (19, 1, 20, 0, .null, []) := rfl
set_option maxRecDepth 100000 in
theorem i167_151 : INS 167 151 = some (0, 1, 0, 2, .null, []) := rfl
set_option maxRecDepth 100000 in
theorem i167_152 : INS 167 152 = some (16, 3, 11, 23, .null, []) := rfl
set_option maxRecDepth 100000 in
theorem i167_155 : INS 167 155 = some (0, 2, 4, 0, .null, []) := rfl
set_option maxRecDepth 100000 in
theorem i167_157 : INS 167 157 = some (0, 1, 0, 2, .null, []) := rfl
set_option maxRecDepth 100000 in
theorem i167_158 : INS 167 158 = some (16, 3, 11, 23, .null, []) := rfl
set_option maxRecDepth 100000 in
theorem i167_161 : INS 167 161 = some (0, 2, 5, 0, .null, []) := rfl
set_option maxRecDepth 100000 in
theorem i167_163 : INS 167 163 = some (18, 1, 20, 0, .null, []) := rfl
set_option maxRecDepth 100000 in
theorem i167_164 : INS 167 164 = some (19, 1, 20, 0, .null, []) := rfl
set_option maxRecDepth 100000 in
theorem i167_165 : INS 167 165 = some (15, 3, 3, 0, .int 1, []) := rfl
set_option maxRecDepth 100000 in
theorem i167_168 : INS 167 168 = some (12, 3, 2, 0, .null, []) := rfl
set_option maxRecDepth 100000 in
theorem i167_171 : INS 167 171 = some (27, 1, 3, 0, .null, []) := rfl
set_option maxRecDepth 100000 in
theorem i168_0 : INS 168 0 = some (2, 1, 0, 0, .int 0, []) := rfl
set_option maxRecDepth 100000 in
theorem i168_1 : INS 168 1 = some (1, 1, 3, 0, .null, []) := rfl
set_option maxRecDepth 100000 in
theorem i168_2 : INS 168 2 = some (0, 1, 3, 0, .null, []) := rfl
set_option maxRecDepth 100000 in
theorem i168_3 : INS 168 3 = some (2, 3, 0, 0, .int 144, []) := rfl
set_option maxRecDepth 100000 in
theorem i168_6 : INS 168 6 = some (10, 3, 230, 3, .null, []) := rfl
set_option maxRecDepth 100000 in
theorem i168_9 : INS 168 9 = some (2, 3, 0, 0, .int 144, []) := rfl
set_option maxRecDepth 100000 in
theorem i168_12 : INS 168 12 = some (0, 1, 1, 0, .null, []) := rfl
set_option maxRecDepth 100000 in
theorem i168_13 : INS 168 13 = some (3, 1, 2, 0, .null, []) := rfl
set_option maxRecDepth 100000 in
theorem i168_14 : INS 168 14 = some (0, 1, 3, 0, .null, []) := rfl
set_option maxRecDepth 100000 in
theorem i168_15 : INS 168 15 = some (3, 1, 0, 0, .null, []) := rfl
set_option maxRecDepth 100000 in
theorem i168_16 : INS 168 16 = some (1, 2, 4, 0, .null, []) := rfl
set_option maxRecDepth 100000 in
theorem i168_18 : INS 168 18 = some (2, 3, 0, 0, .int 144, []) := rfl
set_option maxRecDepth 100000 in
theorem i168_21 : INS 168 21 = some (0, 1, 2, 0, .null, []) := rfl
set_option maxRecDepth 100000 in
theorem i168_22 : INS 168 22 = some (3, 1, 2, 0, .null, []) := rfl
set_option maxRecDepth 100000 in
theorem i168_23 : INS 168 23 = some (0, 1, 3, 0, .null, []) := rfl
set_option maxRecDepth 100000 in
theorem i168_24 : INS 168 24 = some (3, 1, 0, 0, .null, []) := rfl
set_option maxRecDepth 100000 in
theorem i168_25 : INS 168 25 = some (1, 2, 5, 0, .null, []) := rfl
set_option maxRecDepth 100000 in
theorem i168_27 : INS 168 27 = some (0, 1, 0, 2, .null, []) := rfl
set_option maxRecDepth 100000 in
theorem i168_28 : INS 168 28 = some (16, 3, 11, 8, .null, []) := rfl
set_option maxRecDepth 100000 in
theorem i168_31 : INS 168 31 = some (0, 1, 3, 0, .null, []) := rfl
set_option maxRecDepth 100000 in
theorem i168_32 : INS 168 32 = some (18, 1, 20, 0, .null, []) := rfl
set_option maxRecDepth 100000 in
theorem i168_33 : INS 168 33 = some (9, 3, 121, 0, .null, []) := rfl
set_option maxRecDepth 100000 in
theorem i168_36 : INS 168 36 = some (0, 1, 0, 2, .null, []) := rfl
set_option maxRecDepth 100000 in
theorem i168_37 : INS 168 37 = some (16, 3, 11, 16, .null, []) := rfl
set_option maxRecDepth 100000 in
theorem i168_40 : INS 168 40 = some (0, 2, 4, 0, .null, []) := rfl
set_option maxRecDepth 100000 in
theorem i168_42 : INS 168 42 = some (18, 1, 20, 0, .null, []) := rfl
set_option maxRecDepth 100000 in
theorem i168_43 : INS 168 43 = some (0, 1, 0, 2, .null, []) := rfl
set_option maxRecDepth 100000 in
theorem i168_44 : INS 168 44 = some (16, 3, 11, 16, .null, []) := rfl
set_option maxRecDepth 100000 in
theorem i168_47 : INS 168 47 = some (0, 2, 5, 0, .null, []) := rfl
set_option maxRecDepth 100000 in
theorem i168_49 : INS 168 49 = some (18, 1, 20, 0, .null, []) := rfl
set_option maxRecDepth 100000 in
theorem i168_50 : INS 168 50 = some (10, 3, 125, 1, .null, []) := rfl
set_option maxRecDepth 100000 in
theorem i168_53 : INS 168 53 = some (0, 1, 0, 2, .null, []) := rfl
set_option maxRecDepth 100000 in
theorem i168_54 : INS 168 54 = some (16, 3, 11, 17, .null, []) := rfl
set_option maxRecDepth 100000 in
theorem i168_57 : INS 168 57 = some (0, 2, 4, 0, .null, []) := rfl
set_option maxRecDepth 100000 in
theorem i168_59 : INS 168 59 = some (18, 1, 20, 0, .null, []) := rfl
set_option maxRecDepth 100000 in
theorem i168_60 : INS 168 60 = some (0, 1, 0, 2, .null, []) := rfl
set_option maxRecDepth 100000 in
theorem i168_61 : INS 168 61 = some (16, 3, 11, 17, .null, []) := rfl
set_option maxRecDepth 100000 in
theorem i168_64 : INS 168 64 = some (0, 2, 5, 0, .null, []) := rfl
set_option maxRecDepth 100000 in
theorem i168_66 : INS 168 66 = some (18, 1, 20, 0, .null, []) := rfl
set_option maxRecDepth 100000 in
theorem i168_67 : INS 168 67 = some (10, 3, 125, 1, .null, []) := rfl
set_option maxRecDepth 100000 in
theorem i168_70 : INS 168 70 = some (0, 1, 0, 2, .null, []) := rfl
set_option maxRecDepth 100000 in
theorem i168_71 : INS 168 71 = some (16, 3, 11, 18, .null, []) := rfl
set_option maxRecDepth 100000 in
theorem i168_74 : INS 168 74 = some (0, 2, 4, 0, .null, []) := rfl
set_option maxRecDepth 100000 in
theorem i168_76 : INS 168 76 = some (18, 1, 20, 0, .null, []) := rfl
set_option maxRecDepth 100000 in
theorem i168_77 : INS 168 77 = some (0, 1, 0, 2, .null, []) := rfl
set_option maxRecDepth 100000 in
theorem i168_78 : INS 168 78 = some (16, 3, 11, 18, .null, []) := rfl
set_option maxRecDepth 100000 in
theorem i168_81 : INS 168 81 = some (0, 2, 5, 0, .null, []) := rfl
set_option maxRecDepth 100000 in
theorem i168_83 : INS 168 83 = some (18, 1, 20, 0, .null, []) := rfl
set_option maxRecDepth 100000 in
theorem i168_84 : INS 168 84 = some (10, 3, 125, 1, .null, []) := rfl
set_option maxRecDepth 100000 in
theorem i168_87 : INS 168 87 = some (0, 1, 0, 2, .null, []) := rfl
set_option maxRecDepth 100000 in
theorem i168_88 : INS 168 88 = some (16, 3, 11, 19, .null, []) := rfl
set_option maxRecDepth 100000 in
theorem i168_91 : INS 168 91 = some (0, 2, 4, 0, .null, []) := rfl
set_option maxRecDepth 100000 in
theorem i168_93 : INS 168 93 = some (18, 1, 20, 0, .null, []) := rfl
set_option maxRecDepth 100000 in
theorem i168_94 : INS 168 94 = some (0, 1, 0, 2, .null, []) := rfl
set_option maxRecDepth 100000 in
theorem i168_95 : INS 168 95 = some (16, 3, 11, 19, .null, []) := rfl
set_option maxRecDepth 100000 in
theorem i168_98 : INS 168 98 = some (0, 2, 5, 0, .null, []) := rfl
set_option maxRecDepth 100000 in
theorem i168_100 : INS 168 100 = some (18, 1, 20, 0, .null, []) := rfl
set_option maxRecDepth 100000 in
theorem i168_101 : INS 168 101 = some (10, 3, 125, 1, .null, []) := rfl
set_option maxRecDepth 100000 in
theorem i168_104 : INS 168 104 = some (0, 1, 0, 2, .null, []) := rfl
set_option maxRecDepth 100000 in
theorem i168_105 : INS 168 105 = some (16, 3, 11, 20, .null, []) := rfl
set_option maxRecDepth 100000 in
theorem i168_108 : INS 168 108 = some (0, 2, 4, 0, .null, []) := rfl
set_option maxRecDepth 100000 in
theorem i168_110 : INS 168 110 = some (18, 1, 22, 0, .null, []) := rfl
set_option maxRecDepth 100000 in
theorem i168_111 : INS 168 111 = some (0, 1, 0, 2, .null, []) := rfl
set_option maxRecDepth 100000 in
theorem i168_112 : INS 168 112 = some (16, 3, 11, 20, .null, []) := rfl
set_option maxRecDepth 100000 in
theorem i168_115 : INS 168 115 = some (0, 2, 5, 0, .null, []) := rfl
set_option maxRecDepth 100000 in
theorem i168_117 : INS 168 117 = some (18, 1, 22, 0, .null, []) := rfl
set_option maxRecDepth 100000 in
theorem i168_118 : INS 168 118 = some (10, 3, 125, 1, .null, []) := rfl
set_option maxRecDepth 100000 in
theorem i168_121 : INS 168 121 = some (2, 1, 0, 0, .int 1, []) := rfl
set_option maxRecDepth 100000 in
theorem i168_122 : INS 168 122 = some (12, 3, 126, 0, .null, []) := rfl
set_option maxRecDepth 100000 in
theorem i168_125 : INS 168 125 = some (2, 1, 0, 0, .int 0, []) := rfl
set_option maxRecDepth 100000 in
theorem i168_126 : INS 168 126 = some (1, 2, 6, 0, .null, []) := rfl
set_option maxRecDepth 100000 in
theorem i168_128 : INS 168 128 = some (0, 2, 6, 0, .null, []) := rfl
set_option maxRecDepth 100000 in
theorem i168_130 : INS 168 130 = some (9, 3, 222, 0, .null, []) := rfl
set_option maxRecDepth 100000 in
theorem i168_133 : INS 168 133 = some (0, 1, 0, 2, .null, []) := rfl
set_option maxRecDepth 100000 in
theorem i168_134 : INS 168 134 = some (16, 3, 11, 8, .null, []) := rfl
set_option maxRecDepth 100000 in
theorem i168_137 : INS 168 137 = some (0, 1, 3, 0, .null, []) := rfl
set_option maxRecDepth 100000 in
theorem i168_138 : INS 168 138 = some (18, 1, 20, 0, .null, []) := rfl
set_option maxRecDepth 100000 in
theorem i168_139 : INS 168 139 = some (9, 3, 224, 0, .null, []) := rfl
set_option maxRecDepth 100000 in
theorem i168_142 : INS 168 142 = some (0, 1, 0, 2, .null, []) := rfl
set_option maxRecDepth 100000 in
theorem i168_143 : INS 168 143 = some (16, 3, 11, 21, .null, []) := rfl
set_option maxRecDepth 100000 in
theorem i168_146 : INS 168 146 = some (2, 1, 0, 0, .int 2, []) := rfl
set_option maxRecDepth 100000 in
theorem i168_147 : INS 168 147 = some (0, 2, 4, 0, .null, []) := rfl
set_option maxRecDepth 100000 in
theorem i168_149 : INS 168 149 = some (3, 1, 2, 0, .null, []) := rfl
set_option maxRecDepth 100000 in
theorem i168_150 : INS 168 150 = some (18, 1, 20, 0, .null, []) := rfl
set_option maxRecDepth 100000 in
theorem i168_151 : INS 168 151 = some (0, 1, 0, 2, .null, []) := rfl
set_option maxRecDepth 100000 in
theorem i168_152 : INS 168 152 = some (16, 3, 11, 21, .null, []) := rfl
set_option maxRecDepth 100000 in
theorem i168_155 : INS 168 155 = some (2, 1, 0, 0, .int 2, []) := rfl
set_option maxRecDepth 100000 in
theorem i168_156 : INS 168 156 = some (0, 2, 5, 0, .null, []) := rfl
set_option maxRecDepth 100000 in
theorem i168_158 : INS 168 158 = some (3, 1, 2, 0, .null, []) := rfl
set_option maxRecDepth 100000 in
theorem i168_159 : INS 168 159 = some (18, 1, 20, 0, .null, []) := rfl
set_option maxRecDepth 100000 in
theorem i168_160 : INS 168 160 = some (10, 3, 222, 1, .null, []) := rfl
set_option maxRecDepth 100000 in
theorem i168_163 : INS 168 163 = some (0, 1, 0, 2, .null, []) := rfl
set_option maxRecDepth 100000 in
theorem i168_164 : INS 168 164 = some (16, 3, 11, 21, .null, []) := rfl
set_option maxRecDepth 100000 in
theorem i168_167 : INS 168 167 = some (2, 1, 0, 0, .int 2, []) := rfl
set_option maxRecDepth 100000 in
theorem i168_168 : INS 168 168 = some (0, 2, 4, 0, .null, []) := rfl
set_option maxRecDepth 100000 in
theorem i168_170 : INS 168 170 = some (3, 1, 2, 0, .null, []) := rfl
set_option maxRecDepth 100000 in
theorem i168_171 : INS 168 171 = some (2, 1, 0, 0, .int 1, []) := rfl
set_option maxRecDepth 100000 in
theorem i168_172 : INS 168 172 = some (3, 1, 0, 0, .null, []) := rfl
set_option maxRecDepth 100000 in
theorem i168_173 : INS 168 173 = some (18, 1, 20, 0, .null, []) := rfl
set_option maxRecDepth 100000 in
theorem i168_174 : INS 168 174 = some (0, 1, 0, 2, .null, []) := rfl
set_option maxRecDepth 100000 in
theorem i168_175 : INS 168 175 = some (16, 3, 11, 21, .null, []) := rfl
set_option maxRecDepth 100000 in
theorem i168_178 : INS 168 178 = some (2, 1, 0, 0, .int 2, []) := rfl
set_option maxRecDepth 100000 in
theorem i168_179 : INS 168 179 = some (0, 2, 5, 0, .null, []) := rfl
set_option maxRecDepth 100000 in
theorem i168_181 : INS 168 181 = some (3, 1, 2, 0, .null, []) := rfl
set_option maxRecDepth 100000 in
theorem i168_182 : INS 168 182 = some (2, 1, 0, 0, .int 1, []) := rfl
set_option maxRecDepth 100000 in
theorem i168_183 : INS 168 183 = some (3, 1, 0, 0, .null, []) := rfl
set_option maxRecDepth 100000 in
theorem i168_184 : INS 168 184 = some (18, 1, 20, 0, .null, []) := rfl
set_option maxRecDepth 100000 in
theorem i168_185 : INS 168 185 = some (10, 3, 222, 1, .null, []) := rfl
set_option maxRecDepth 100000 in
theorem i168_188 : INS 168 188 = some (0, 1, 0, 2, .null, []) := rfl
set_option maxRecDepth 100000 in
theorem i168_189 : INS 168 189 = some (16, 3, 11, 22, .null, []) := rfl
set_option maxRecDepth 100000 in
theorem i168_192 : INS 168 192 = some (0, 2, 4, 0, .null, []) := rfl
set_option maxRecDepth 100000 in
theorem i168_194 : INS 168 194 = some (18, 1, 20, 0, .null, []) := rfl
set_option maxRecDepth 100000 in
theorem i168_195 : INS 168 195 = some (0, 1, 0, 2, .null, []) := rfl
set_option maxRecDepth 100000 in
theorem i168_196 : INS 168 196 = some (16, 3, 11, 22, .null, []) := rfl
set_option maxRecDepth 100000 in
theorem i168_199 : INS 168 199 = some (0, 2, 5, 0, .null, []) := rfl
set_option maxRecDepth 100000 in
theorem i168_201 : INS 168 201 = some (18, 1, 20, 0, .null, []) := rfl
set_option maxRecDepth 100000 in
theorem i168_202 : INS 168 202 = some (10, 3, 222, 1, .null, []) := rfl
set_option maxRecDepth 100000 in
theorem i168_205 : INS 168 205 = some (0, 1, 0, 2, .null, []) := rfl
set_option maxRecDepth 100000 in
theorem i168_206 : INS 168 206 = some (16, 3, 11, 23, .null, []) := rfl
set_option maxRecDepth 100000 in
theorem i168_209 : INS 168 209 = some (0, 2, 4, 0, .null, []) := rfl
set_option maxRecDepth 100000 in
theorem i168_211 : INS 168 211 = some (18, 1, 20, 0, .null, []) := rfl
set_option maxRecDepth 100000 in
theorem i168_212 : INS 168 212 = some (0, 1, 0, 2, .null, []) := rfl
set_option maxRecDepth 100000 in
theorem i168_213 : INS 168 213 = some (16, 3, 11, 23, .null, []) := rfl
set_option maxRecDepth 100000 in
theorem i168_216 : INS 168 216 = some (0, 2, 5, 0, .null, []) := rfl
set_option maxRecDepth 100000 in
theorem i168_218 : INS 168 218 = some (18, 1, 20, 0, .null, []) := rfl
set_option maxRecDepth 100000 in
theorem i168_219 : INS 168 219 = some (10, 3, 224, 0, .null, []) := rfl
set_option maxRecDepth 100000 in
theorem i168_222 : INS 168 222 = some (2, 1, 0, 0, .int 0, []) := rfl
set_option maxRecDepth 100000 in
theorem i168_223 : INS 168 223 = some (27, 1, 0, 0, .null, []) := rfl
set_option maxRecDepth 100000 in
theorem i168_224 : INS 168 224 = some (15, 3, 3, 0, .int 1, []) := rfl
set_option maxRecDepth 100000 in
theorem i168_227 : INS 168 227 = some (12, 3, 2, 0, .null, []) := rfl
set_option maxRecDepth 100000 in
theorem i168_230 : INS 168 230 = some (2, 1, 0, 0, .int 1, []) := rfl
set_option maxRecDepth 100000 in
theorem i168_231 : INS 168 231 = some (27, 1, 0, 0, .null, []) := rfl
set_option maxRecDepth 100000 in
theorem i169_0 : INS 169 0 = some (0, 1, 0, 2, .null, []) := rfl
set_option maxRecDepth 100000 in
theorem i169_1 : INS 169 1 = some (2, 1, 0, 0, .int 1, []) := rfl
set_option maxRecDepth 100000 in
theorem i169_2 : INS 169 2 = some (2, 1, 0, 0, .int 0, []) := rfl
set_option maxRecDepth 100000 in
theorem i169_3 : INS 169 3 = some (24, 3, 167, 0, .null, []) := rfl
set_option maxRecDepth 100000 in
theorem i169_6 : INS 169 6 = some (0, 1, 0, 2, .null, []) := rfl
set_option maxRecDepth 100000 in
theorem i169_7 : INS 169 7 = some (2, 1, 0, 0, .int 2, []) := rfl
set_option maxRecDepth 100000 in
theorem i169_8 : INS 169 8 = some (2, 1, 0, 0, .int 0, []) := rfl
set_option maxRecDepth 100000 in
theorem i169_9 : INS 169 9 = some (24, 3, 167, 0, .null, []) := rfl
set_option maxRecDepth 100000 in
theorem i169_12 : INS 169 12 = some (2, 1, 0, 0, .int 0, []) := rfl
set_option maxRecDepth 100000 in
theorem i169_13 : INS 169 13 = some (1, 1, 2, 0, .null, []) := rfl
set_option maxRecDepth 100000 in
theorem i169_14 : INS 169 14 = some (2, 1, 0, 0, .int 1, []) := rfl
set_option maxRecDepth 100000 in
theorem i169_15 : INS 169 15 = some (1, 1, 3, 0, .null, []) := rfl
set_option maxRecDepth 100000 in
theorem i169_16 : INS 169 16 = some (2, 1, 0, 0, .int 0, []) := rfl
set_option maxRecDepth 100000 in
theorem i169_17 : INS 169 17 = some (1, 2, 4, 0, .null, []) := rfl
set_option maxRecDepth 100000 in
theorem i169_19 : INS 169 19 = some (0, 2, 4, 0, .null, []) := rfl
set_option maxRecDepth 100000 in
theorem i169_21 : INS 169 21 = some (0, 1, 1, 0, .null, []) := rfl
set_option maxRecDepth 100000 in
theorem i169_22 : INS 169 22 = some (10, 3, 67, 3, .null, []) := rfl
set_option maxRecDepth 100000 in
theorem i169_25 : INS 169 25 = some (0, 1, 2, 0, .null, []) := rfl
set_option maxRecDepth 100000 in
theorem i169_26 : INS 169 26 = some (0, 1, 3, 0, .null, []) := rfl
set_option maxRecDepth 100000 in
theorem i169_27 : INS 169 27 = some (10, 3, 42, 1, .null, []) := rfl
set_option maxRecDepth 100000 in
theorem i169_30 : INS 169 30 = some (0, 1, 0, 2, .null, []) := rfl
set_option maxRecDepth 100000 in
theorem i169_31 : INS 169 31 = some (2, 1, 0, 0, .int 2, []) := rfl
set_option maxRecDepth 100000 in
theorem i169_32 : INS 169 32 = some (2, 1, 0, 0, .int 1, []) := rfl
set_option maxRecDepth 100000 in
theorem i169_33 : INS 169 33 = some (24, 3, 167, 0, .null, []) := rfl
set_option maxRecDepth 100000 in
theorem i169_36 : INS 169 36 = some (0, 1, 3, 0, .null, []) := rfl
set_option maxRecDepth 100000 in
theorem i169_37 : INS 169 37 = some (2, 1, 0, 0, .int 2, []) := rfl
set_option maxRecDepth 100000 in
theorem i169_38 : INS 169 38 = some (3, 1, 2, 0, .null, []) := rfl
set_option maxRecDepth 100000 in
theorem i169_39 : INS 169 39 = some (1, 1, 3, 0, .null, []) := rfl
set_option maxRecDepth 100000 in
theorem i169_40 : INS 169 40 = some (2, 1, 0, 0, .int 0, []) := rfl
set_option maxRecDepth 100000 in
theorem i169_41 : INS 169 41 = some (1, 1, 2, 0, .null, []) := rfl
set_option maxRecDepth 100000 in
theorem i169_42 : INS 169 42 = some (0, 1, 0, 2, .null, []) := rfl
set_option maxRecDepth 100000 in
theorem i169_43 : INS 169 43 = some (2, 1, 0, 0, .int 1, []) := rfl
set_option maxRecDepth 100000 in
theorem i169_44 : INS 169 44 = some (24, 3, 162, 0, .null, []) := rfl
set_option maxRecDepth 100000 in
theorem i169_47 : INS 169 47 = some (15, 3, 2, 0, .int 1, []) := rfl
set_option maxRecDepth 100000 in
theorem i169_50 : INS 169 50 = some (0, 1, 0, 2, .null, []) := rfl
set_option maxRecDepth 100000 in
theorem i169_51 : INS 169 51 = some (2, 1, 0, 0, .int 1, []) := rfl
set_option maxRecDepth 100000 in
theorem i169_52 : INS 169 52 = some (2, 1, 0, 0, .int 2, []) := rfl
set_option maxRecDepth 100000 in
theorem i169_53 : INS 169 53 = some (24, 3, 168, 0, .null, []) := rfl
set_option maxRecDepth 100000 in
theorem i169_56 : INS 169 56 = some (9, 3, 61, 0, .null, []) := rfl
set_option maxRecDepth 100000 in
theorem i169_59 : INS 169 59 = some (0, 1, 2, 0, .null, []) := rfl
set_option maxRecDepth 100000 in
theorem i169_60 : INS 169 60 = some (27, 1, 0, 0, .null, []) := rfl
set_option maxRecDepth 100000 in
theorem i169_61 : INS 169 61 = some (15, 3, 4, 0, .int 1, []) := rfl
set_option maxRecDepth 100000 in
theorem i169_64 : INS 169 64 = some (12, 3, 19, 0, .null, []) := rfl
set_option maxRecDepth 100000 in
theorem i169_67 : INS 169 67 = some (2, 1, 0, 0, .int 0, []) := rfl
set_option maxRecDepth 100000 in
theorem i169_68 : INS 169 68 = some (27, 1, 0, 0, .null, []) := rfl
set_option maxRecDepth 100000 in
theorem i170_0 : INS 170 0 = some (0, 1, 0, 2, .null, []) := rfl
set_option maxRecDepth 100000 in
theorem i170_1 : INS 170 1 = some (2, 1, 0, 0, .int 1, []) := rfl
set_option maxRecDepth 100000 in
theorem i170_2 : INS 170 2 = some (2, 1, 0, 0, .int 0, []) := rfl
set_option maxRecDepth 100000 in
theorem i170_3 : INS 170 3 = some (24, 3, 167, 0, .null, []) := rfl
set_option maxRecDepth 100000 in
theorem i170_6 : INS 170 6 = some (0, 1, 0, 2, .null, []) := rfl
set_option maxRecDepth 100000 in
theorem i170_7 : INS 170 7 = some (2, 1, 0, 0, .int 2, []) := rfl
set_option maxRecDepth 100000 in
theorem i170_8 : INS 170 8 = some (2, 1, 0, 0, .int 0, []) := rfl
set_option maxRecDepth 100000 in
theorem i170_9 : INS 170 9 = some (24, 3, 167, 0, .null, []) := rfl
set_option maxRecDepth 100000 in
theorem i170_12 : INS 170 12 = some (2, 1, 0, 0, .int 0, []) := rfl
set_option maxRecDepth 100000 in
theorem i170_13 : INS 170 13 = some (1, 1, 3, 0, .null, []) := rfl
set_option maxRecDepth 100000 in
theorem i170_14 : INS 170 14 = some (0, 1, 3, 0, .null, []) := rfl
set_option maxRecDepth 100000 in
theorem i170_15 : INS 170 15 = some (0, 1, 1, 0, .null, []) := rfl
set_option maxRecDepth 100000 in
theorem i170_16 : INS 170 16 = some (10, 3, 30, 3, .null, []) := rfl
set_option maxRecDepth 100000 in
theorem i170_19 : INS 170 19 = some (0, 1, 0, 2, .null, []) := rfl
set_option maxRecDepth 100000 in
theorem i170_20 : INS 170 20 = some (2, 1, 0, 0, .int 2, []) := rfl
set_option maxRecDepth 100000 in
theorem i170_21 : INS 170 21 = some (24, 3, 162, 0, .null, []) := rfl
set_option maxRecDepth 100000 in
theorem i170_24 : INS 170 24 = some (15, 3, 3, 0, .int 1, []) := rfl
set_option maxRecDepth 100000 in
theorem i170_27 : INS 170 27 = some (12, 3, 14, 0, .null, []) := rfl
set_option maxRecDepth 100000 in
theorem i170_30 : INS 170 30 = some (2, 1, 0, 0, .int 0, []) := rfl
set_option maxRecDepth 100000 in
theorem i170_31 : INS 170 31 = some (1, 1, 3, 0, .null, []) := rfl
set_option maxRecDepth 100000 in
theorem i170_32 : INS 170 32 = some (0, 1, 0, 2, .null, []) := rfl
set_option maxRecDepth 100000 in
theorem i170_33 : INS 170 33 = some (2, 1, 0, 0, .int 1, []) := rfl
set_option maxRecDepth 100000 in
theorem i170_34 : INS 170 34 = some (2, 1, 0, 0, .int 2, []) := rfl
set_option maxRecDepth 100000 in
theorem i170_35 : INS 170 35 = some (24, 3, 168, 0, .null, []) := rfl
set_option maxRecDepth 100000 in
theorem i170_38 : INS 170 38 = some (9, 3, 62, 1, .null, []) := rfl
set_option maxRecDepth 100000 in
theorem i170_41 : INS 170 41 = some (0, 1, 3, 0, .null, []) := rfl
set_option maxRecDepth 100000 in
theorem i170_42 : INS 170 42 = some (0, 1, 2, 0, .null, []) := rfl
set_option maxRecDepth 100000 in
theorem i170_43 : INS 170 43 = some (10, 3, 62, 4, .null, []) := rfl
set_option maxRecDepth 100000 in
theorem i170_46 : INS 170 46 = some (0, 1, 0, 2, .null, []) := rfl
set_option maxRecDepth 100000 in
theorem i170_47 : INS 170 47 = some (2, 1, 0, 0, .int 1, []) := rfl
set_option maxRecDepth 100000 in
theorem i170_48 : INS 170 48 = some (24, 3, 162, 0, .null, []) := rfl
set_option maxRecDepth 100000 in
theorem i170_51 : INS 170 51 = some (0, 1, 0, 2, .null, []) := rfl
set_option maxRecDepth 100000 in
theorem i170_52 : INS 170 52 = some (2, 1, 0, 0, .int 2, []) := rfl
set_option maxRecDepth 100000 in
theorem i170_53 : INS 170 53 = some (24, 3, 162, 0, .null, []) := rfl
set_option maxRecDepth 100000 in
theorem i170_56 : INS 170 56 = some (15, 3, 3, 0, .int 1, []) := rfl
set_option maxRecDepth 100000 in
theorem i170_59 : INS 170 59 = some (12, 3, 32, 0, .null, []) := rfl
set_option maxRecDepth 100000 in
theorem i170_62 : INS 170 62 = some (0, 1, 3, 0, .null, []) := rfl
set_option maxRecDepth 100000 in
theorem i170_63 : INS 170 63 = some (27, 1, 0, 0, .null, []) := rfl
set_option maxRecDepth 100000 in
theorem i171_0 : INS 171 0 = some (2, 1, 0, 0, .int 0, []) := rfl
set_option maxRecDepth 100000 in
theorem i171_1 : INS 171 1 = some (1, 1, 1, 0, .null, []) := rfl
set_option maxRecDepth 100000 in
theorem i171_2 : INS 171 2 = some (2, 1, 0, 0, .int 0, []) := rfl
set_option maxRecDepth 100000 in
theorem i171_3 : INS 171 3 = some (1, 1, 2, 0, .null, []) := rfl
set_option maxRecDepth 100000 in
theorem i171_4 : INS 171 4 = some (0, 1, 2, 0, .null, []) := rfl
set_option maxRecDepth 100000 in
theorem i171_5 : INS 171 5 = some (2, 3, 0, 0, .int 144, []) := rfl
set_option maxRecDepth 100000 in
theorem i171_8 : INS 171 8 = some (10, 3, 59, 3, .null, []) := rfl
set_option maxRecDepth 100000 in
theorem i171_11 : INS 171 11 = some (0, 1, 1, 0, .null, []) := rfl
set_option maxRecDepth 100000 in
theorem i171_12 : INS 171 12 = some (0, 1, 0, 2, .null, []) := rfl
set_option maxRecDepth 100000 in
theorem i171_13 : INS 171 13 = some (16, 3, 11, 8, .null, []) := rfl
set_option maxRecDepth 100000 in
theorem i171_16 : INS 171 16 = some (0, 1, 2, 0, .null, []) := rfl
set_option maxRecDepth 100000 in
theorem i171_17 : INS 171 17 = some (18, 1, 20, 0, .null, []) := rfl
set_option maxRecDepth 100000 in
theorem i171_18 : INS 171 18 = some (2, 2, 0, 0, .int 6, []) := rfl
set_option maxRecDepth 100000 in
theorem i171_20 : INS 171 20 = some (10, 3, 50, 1, .null, []) := rfl
set_option maxRecDepth 100000 in
theorem i171_23 : INS 171 23 = some (0, 1, 0, 2, .null, []) := rfl
set_option maxRecDepth 100000 in
theorem i171_24 : INS 171 24 = some (16, 3, 11, 20, .null, []) := rfl
set_option maxRecDepth 100000 in
theorem i171_27 : INS 171 27 = some (2, 3, 0, 0, .int 144, []) := rfl
set_option maxRecDepth 100000 in
theorem i171_30 : INS 171 30 = some (0, 1, 2, 0, .null, []) := rfl
set_option maxRecDepth 100000 in
theorem i171_31 : INS 171 31 = some (3, 1, 0, 0, .null, []) := rfl
set_option maxRecDepth 100000 in
theorem i171_32 : INS 171 32 = some (18, 1, 22, 0, .null, []) := rfl
set_option maxRecDepth 100000 in
theorem i171_33 : INS 171 33 = some (9, 3, 50, 0, .null, []) := rfl
set_option maxRecDepth 100000 in
theorem i171_36 : INS 171 36 = some (0, 1, 0, 2, .null, []) := rfl
set_option maxRecDepth 100000 in
theorem i171_37 : INS 171 37 = some (16, 3, 11, 7, .null, []) := rfl
set_option maxRecDepth 100000 in
theorem i171_40 : INS 171 40 = some (0, 1, 0, 2, .null, []) := rfl
set_option maxRecDepth 100000 in
theorem i171_41 : INS 171 41 = some (16, 3, 11, 10, .null, []) := rfl
set_option maxRecDepth 100000 in
theorem i171_44 : INS 171 44 = some (0, 1, 2, 0, .null, []) := rfl
set_option maxRecDepth 100000 in
theorem i171_45 : INS 171 45 = some (18, 1, 20, 0, .null, []) := rfl
set_option maxRecDepth 100000 in
theorem i171_46 : INS 171 46 = some (18, 1, 20, 0, .null, []) := rfl
set_option maxRecDepth 100000 in
theorem i171_47 : INS 171 47 = some (12, 3, 51, 0, .null, []) := rfl
set_option maxRecDepth 100000 in
theorem i171_50 : INS 171 50 = some (2, 1, 0, 0, .int 0, []) := rfl
set_option maxRecDepth 100000 in
theorem i171_51 : INS 171 51 = some (3, 1, 0, 0, .null, []) := rfl
set_option maxRecDepth 100000 in
theorem i171_52 : INS 171 52 = some (1, 1, 1, 0, .null, []) := rfl
set_option maxRecDepth 100000 in
theorem i171_53 : INS 171 53 = some (15, 3, 2, 0, .int 1, []) := rfl
set_option maxRecDepth 100000 in
theorem i171_56 : INS 171 56 = some (12, 3, 4, 0, .null, []) := rfl
set_option maxRecDepth 100000 in
theorem i171_59 : INS 171 59 = some (0, 1, 1, 0, .null, []) := rfl
set_option maxRecDepth 100000 in
theorem i171_60 : INS 171 60 = some (27, 1, 0, 0, .null, []) := rfl
set_option maxRecDepth 100000 in
theorem i172_0 : INS 172 0 = some (0, 1, 0, 2, .null, []) := rfl
set_option maxRecDepth 100000 in
theorem i172_1 : INS 172 1 = some (24, 3, 165, 0, .null, []) := rfl
set_option maxRecDepth 100000 in
theorem i172_4 : INS 172 4 = some (2, 1, 0, 0, .int 0, []) := rfl
set_option maxRecDepth 100000 in
theorem i172_5 : INS 172 5 = some (1, 1, 2, 0, .null, []) := rfl
set_option maxRecDepth 100000 in
theorem i172_6 : INS 172 6 = some (2, 1, 0, 0, .int 0, []) := rfl
set_option maxRecDepth 100000 in
theorem i172_7 : INS 172 7 = some (1, 1, 3, 0, .null, []) := rfl
set_option maxRecDepth 100000 in
theorem i172_8 : INS 172 8 = some (2, 1, 0, 0, .int 0, []) := rfl
set_option maxRecDepth 100000 in
theorem i172_9 : INS 172 9 = some (1, 2, 4, 0, .null, []) := rfl
set_option maxRecDepth 100000 in
theorem i172_11 : INS 172 11 = some (0, 2, 4, 0, .null, []) := rfl
set_option maxRecDepth 100000 in
theorem i172_13 : INS 172 13 = some (2, 3, 0, 0, .int 144, []) := rfl
set_option maxRecDepth 100000 in
theorem i172_16 : INS 172 16 = some (10, 3, 87, 3, .null, []) := rfl
set_option maxRecDepth 100000 in
theorem i172_19 : INS 172 19 = some (0, 1, 0, 2, .null, []) := rfl
set_option maxRecDepth 100000 in
theorem i172_20 : INS 172 20 = some (16, 3, 11, 43, .null, []) := rfl
set_option maxRecDepth 100000 in
theorem i172_23 : INS 172 23 = some (0, 2, 4, 0, .null, []) := rfl
set_option maxRecDepth 100000 in
theorem i172_25 : INS 172 25 = some (0, 1, 0, 2, .null, []) := rfl
set_option maxRecDepth 100000 in
theorem i172_26 : INS 172 26 = some (16, 3, 11, 8, .null, []) := rfl
set_option maxRecDepth 100000 in
theorem i172_29 : INS 172 29 = some (0, 2, 4, 0, .null, []) := rfl
set_option maxRecDepth 100000 in
theorem i172_31 : INS 172 31 = some (18, 1, 20, 0, .null, []) := rfl
set_option maxRecDepth 100000 in
theorem i172_32 : INS 172 32 = some (9, 3, 39, 0, .null, []) := rfl
set_option maxRecDepth 100000 in
theorem i172_35 : INS 172 35 = some (2, 1, 0, 0, .int 1, []) := rfl
set_option maxRecDepth 100000 in
theorem i172_36 : INS 172 36 = some (12, 3, 40, 0, .null, []) := rfl
set_option maxRecDepth 100000 in
theorem i172_39 : INS 172 39 = some (2, 1, 0, 0, .int 0, []) := rfl
set_option maxRecDepth 100000 in
theorem i172_40 : INS 172 40 = some (19, 1, 22, 0, .null, []) := rfl
set_option maxRecDepth 100000 in
theorem i172_41 : INS 172 41 = some (0, 1, 0, 2, .null, []) := rfl
set_option maxRecDepth 100000 in
theorem i172_42 : INS 172 42 = some (16, 3, 11, 42, .null, []) := rfl
set_option maxRecDepth 100000 in
theorem i172_45 : INS 172 45 = some (2, 1, 0, 0, .int 5, []) := rfl
set_option maxRecDepth 100000 in
theorem i172_46 : INS 172 46 = some (0, 2, 4, 0, .null, []) := rfl
set_option maxRecDepth 100000 in
theorem i172_48 : INS 172 48 = some (3, 1, 2, 0, .null, []) := rfl
set_option maxRecDepth 100000 in
theorem i172_49 : INS 172 49 = some (2, 1, 0, 0, .int 3, []) := rfl
set_option maxRecDepth 100000 in
theorem i172_50 : INS 172 50 = some (3, 1, 0, 0, .null, []) := rfl
set_option maxRecDepth 100000 in
theorem i172_51 : INS 172 51 = some (2, 1, 0, 0, .int 1, []) := rfl
set_option maxRecDepth 100000 in
theorem i172_52 : INS 172 52 = some (19, 1, 20, 0, .null, []) := rfl
set_option maxRecDepth 100000 in
theorem i172_53 : INS 172 53 = some (0, 1, 0, 2, .null, []) := rfl
set_option maxRecDepth 100000 in
theorem i172_54 : INS 172 54 = some (16, 3, 11, 42, .null, []) := rfl
set_option maxRecDepth 100000 in
theorem i172_57 : INS 172 57 = some (2, 1, 0, 0, .int 5, []) := rfl
set_option maxRecDepth 100000 in
theorem i172_58 : INS 172 58 = some (0, 2, 4, 0, .null, []) := rfl
set_option maxRecDepth 100000 in
theorem i172_60 : INS 172 60 = some (3, 1, 2, 0, .null, []) := rfl
set_option maxRecDepth 100000 in
theorem i172_61 : INS 172 61 = some (2, 1, 0, 0, .int 4, []) := rfl
set_option maxRecDepth 100000 in
theorem i172_62 : INS 172 62 = some (3, 1, 0, 0, .null, []) := rfl
set_option maxRecDepth 100000 in
theorem i172_63 : INS 172 63 = some (0, 1, 0, 2, .null, []) := rfl
set_option maxRecDepth 100000 in
theorem i172_64 : INS 172 64 = some (16, 3, 11, 8, .null, []) := rfl
set_option maxRecDepth 100000 in
theorem i172_67 : INS 172 67 = some (0, 2, 4, 0, .null, []) := rfl
set_option maxRecDepth 100000 in
theorem i172_69 : INS 172 69 = some (18, 1, 20, 0, .null, []) := rfl
set_option maxRecDepth 100000 in
theorem i172_70 : INS 172 70 = some (2, 2, 0, 0, .int 6, []) := rfl
set_option maxRecDepth 100000 in
theorem i172_72 : INS 172 72 = some (10, 3, 79, 1, .null, []) := rfl
set_option maxRecDepth 100000 in
theorem i172_75 : INS 172 75 = some (2, 1, 0, 0, .int 1, []) := rfl
set_option maxRecDepth 100000 in
theorem i172_76 : INS 172 76 = some (12, 3, 80, 0, .null, []) := rfl
set_option maxRecDepth 100000 in
theorem i172_79 : INS 172 79 = some (2, 1, 0, 0, .int 0, []) := rfl
set_option maxRecDepth 100000 in
theorem i172_80 : INS 172 80 = some (19, 1, 20, 0, .null, []) := rfl
set_option maxRecDepth 100000 in
theorem i172_81 : INS 172 81 = some (15, 3, 4, 0, .int 1, []) := rfl
set_option maxRecDepth 100000 in
theorem i172_84 : INS 172 84 = some (12, 3, 11, 0, .null, []) := rfl
set_option maxRecDepth 100000 in
theorem i172_87 : INS 172 87 = some (2, 1, 0, 0, .int 0, []) := rfl
set_option maxRecDepth 100000 in
theorem i172_88 : INS 172 88 = some (1, 2, 4, 0, .null, []) := rfl
set_option maxRecDepth 100000 in
theorem i172_90 : INS 172 90 = some (0, 2, 4, 0, .null, []) := rfl
set_option maxRecDepth 100000 in
theorem i172_92 : INS 172 92 = some (0, 1, 1, 0, .null, []) := rfl
set_option maxRecDepth 100000 in
theorem i172_93 : INS 172 93 = some (10, 3, 319, 3, .null, []) := rfl
set_option maxRecDepth 100000 in
theorem i172_96 : INS 172 96 = some (0, 1, 0, 2, .null, []) := rfl
set_option maxRecDepth 100000 in
theorem i172_97 : INS 172 97 = some (2, 1, 0, 0, .int 1, []) := rfl
set_option maxRecDepth 100000 in
theorem i172_98 : INS 172 98 = some (24, 3, 162, 0, .null, []) := rfl
set_option maxRecDepth 100000 in
theorem i172_101 : INS 172 101 = some (0, 1, 0, 2, .null, []) := rfl
set_option maxRecDepth 100000 in
theorem i172_102 : INS 172 102 = some (24, 3, 171, 0, .null, []) := rfl
set_option maxRecDepth 100000 in
theorem i172_105 : INS 172 105 = some (1, 2, 5, 0, .null, []) := rfl
set_option maxRecDepth 100000 in
theorem i172_107 : INS 172 107 = some (0, 2, 5, 0, .null, []) := rfl
set_option maxRecDepth 100000 in
theorem i172_109 : INS 172 109 = some (0, 1, 2, 0, .null, []) := rfl
set_option maxRecDepth 100000 in
theorem i172_110 : INS 172 110 = some (10, 3, 118, 5, .null, []) := rfl
set_option maxRecDepth 100000 in
theorem i172_113 : INS 172 113 = some (0, 2, 5, 0, .null, []) := rfl
set_option maxRecDepth 100000 in
theorem i172_115 : INS 172 115 = some (12, 3, 119, 0, .null, []) := rfl
set_option maxRecDepth 100000 in
theorem i172_118 : INS 172 118 = some (0, 1, 2, 0, .null, []) := rfl
set_option maxRecDepth 100000 in
theorem i172_119 : INS 172 119 = some (1, 1, 2, 0, .null, []) := rfl
set_option maxRecDepth 100000 in
theorem i172_120 : INS 172 120 = some (2, 1, 0, 0, .int 0, []) := rfl
set_option maxRecDepth 100000 in
theorem i172_121 : INS 172 121 = some (1, 2, 6, 0, .null, []) := rfl
set_option maxRecDepth 100000 in
theorem i172_123 : INS 172 123 = some (0, 2, 6, 0, .null, []) := rfl
set_option maxRecDepth 100000 in
theorem i172_125 : INS 172 125 = some (2, 3, 0, 0, .int 144, []) := rfl
set_option maxRecDepth 100000 in
theorem i172_128 : INS 172 128 = some (10, 3, 313, 3, .null, []) := rfl
set_option maxRecDepth 100000 in
theorem i172_131 : INS 172 131 = some (2, 3, 0, 0, .int 144, []) := rfl
set_option maxRecDepth 100000 in
theorem i172_134 : INS 172 134 = some (0, 2, 6, 0, .null, []) := rfl
set_option maxRecDepth 100000 in
theorem i172_136 : INS 172 136 = some (3, 1, 0, 0, .null, []) := rfl
set_option maxRecDepth 100000 in
theorem i172_137 : INS 172 137 = some (1, 2, 7, 0, .null, []) := rfl
set_option maxRecDepth 100000 in
theorem i172_139 : INS 172 139 = some (0, 1, 0, 2, .null, []) := rfl
set_option maxRecDepth 100000 in
theorem i172_140 : INS 172 140 = some (16, 3, 11, 8, .null, []) := rfl
set_option maxRecDepth 100000 in
theorem i172_143 : INS 172 143 = some (0, 2, 6, 0, .null, []) := rfl
set_option maxRecDepth 100000 in
theorem i172_145 : INS 172 145 = some (18, 1, 20, 0, .null, []) := rfl
set_option maxRecDepth 100000 in
theorem i172_146 : INS 172 146 = some (2, 2, 0, 0, .int 6, []) := rfl
set_option maxRecDepth 100000 in
theorem i172_148 : INS 172 148 = some (10, 3, 169, 1, .null, []) := rfl
set_option maxRecDepth 100000 in
theorem i172_151 : INS 172 151 = some (0, 1, 0, 2, .null, []) := rfl
set_option maxRecDepth 100000 in
theorem i172_152 : INS 172 152 = some (16, 3, 11, 18, .null, []) := rfl
set_option maxRecDepth 100000 in
theorem i172_155 : INS 172 155 = some (0, 2, 7, 0, .null, []) := rfl
set_option maxRecDepth 100000 in
theorem i172_157 : INS 172 157 = some (18, 1, 20, 0, .null, []) := rfl
set_option maxRecDepth 100000 in
theorem i172_158 : INS 172 158 = some (9, 3, 165, 5, .null, []) := rfl
set_option maxRecDepth 100000 in
theorem i172_161 : INS 172 161 = some (2, 1, 0, 0, .int 1, []) := rfl
set_option maxRecDepth 100000 in
theorem i172_162 : INS 172 162 = some (12, 3, 184, 0, .null, []) := rfl
set_option maxRecDepth 100000 in
theorem i172_165 : INS 172 165 = some (2, 1, 0, 0, .int 0, []) := rfl
set_option maxRecDepth 100000 in
theorem i172_166 : INS 172 166 = some (12, 3, 184, 0, .null, []) := rfl
set_option maxRecDepth 100000 in
theorem i172_169 : INS 172 169 = some (0, 1, 0, 2, .null, []) := rfl
set_option maxRecDepth 100000 in
theorem i172_170 : INS 172 170 = some (16, 3, 11, 16, .null, []) := rfl
set_option maxRecDepth 100000 in
theorem i172_173 : INS 172 173 = some (0, 2, 7, 0, .null, []) := rfl
set_option maxRecDepth 100000 in
theorem i172_175 : INS 172 175 = some (18, 1, 20, 0, .null, []) := rfl
set_option maxRecDepth 100000 in
theorem i172_176 : INS 172 176 = some (9, 3, 183, 0, .null, []) := rfl
set_option maxRecDepth 100000 in
theorem i172_179 : INS 172 179 = some (2, 1, 0, 0, .int 1, []) := rfl
set_option maxRecDepth 100000 in
theorem i172_180 : INS 172 180 = some (12, 3, 184, 0, .null, []) := rfl
set_option maxRecDepth 100000 in
theorem i172_183 : INS 172 183 = some (2, 1, 0, 0, .int 0, []) := rfl
set_option maxRecDepth 100000 in
theorem i172_184 : INS 172 184 = some (1, 2, 8, 0, .null, []) := rfl
set_option maxRecDepth 100000 in
theorem i172_186 : INS 172 186 = some (0, 1, 0, 2, .null, []) := rfl
set_option maxRecDepth 100000 in
theorem i172_187 : INS 172 187 = some (16, 3, 11, 42, .null, []) := rfl
set_option maxRecDepth 100000 in
theorem i172_190 : INS 172 190 = some (2, 1, 0, 0, .int 5, []) := rfl
set_option maxRecDepth 100000 in
theorem i172_191 : INS 172 191 = some (0, 2, 6, 0, .null, []) := rfl
set_option maxRecDepth 100000 in
theorem i172_193 : INS 172 193 = some (3, 1, 2, 0, .null, []) := rfl
set_option maxRecDepth 100000 in
theorem i172_194 : INS 172 194 = some (2, 1, 0, 0, .int 3, []) := rfl
set_option maxRecDepth 100000 in
theorem i172_195 : INS 172 195 = some (3, 1, 0, 0, .null, []) := rfl
set_option maxRecDepth 100000 in
theorem i172_196 : INS 172 196 = some (0, 2, 8, 0, .null, []) := rfl
set_option maxRecDepth 100000 in
theorem i172_198 : INS 172 198 = some (9, 3, 215, 0, .null, []) := rfl
set_option maxRecDepth 100000 in
theorem i172_201 : INS 172 201 = some (0, 1, 0, 2, .null, []) := rfl
set_option maxRecDepth 100000 in
theorem i172_202 : INS 172 202 = some (16, 3, 11, 42, .null, []) := rfl
set_option maxRecDepth 100000 in
theorem i172_205 : INS 172 205 = some (2, 1, 0, 0, .int 5, []) := rfl
set_option maxRecDepth 100000 in
theorem i172_206 : INS 172 206 = some (0, 2, 6, 0, .null, []) := rfl
set_option maxRecDepth 100000 in
theorem i172_208 : INS 172 208 = some (3, 1, 2, 0, .null, []) := rfl
set_option maxRecDepth 100000 in
theorem i172_209 : INS 172 209 = some (2, 1, 0, 0, .int 3, []) := rfl
set_option maxRecDepth 100000 in
theorem i172_210 : INS 172 210 = some (3, 1, 0, 0, .null, []) := rfl
set_option maxRecDepth 100000 in
theorem i172_211 : INS 172 211 = some (18, 1, 20, 0, .null, []) := rfl
set_option maxRecDepth 100000 in
theorem i172_212 : INS 172 212 = some (12, 3, 216, 0, .null, []) := rfl
set_option maxRecDepth 100000 in
theorem i172_215 : INS 172 215 = some (2, 1, 0, 0, .int 0, []) := rfl
set_option maxRecDepth 100000 in
theorem i172_216 : INS 172 216 = some (19, 1, 20, 0, .null, []) := rfl
set_option maxRecDepth 100000 in
theorem i172_217 : INS 172 217 = some (0, 1, 0, 2, .null, []) := rfl
set_option maxRecDepth 100000 in
theorem i172_218 : INS 172 218 = some (16, 3, 11, 8, .null, []) := rfl
set_option maxRecDepth 100000 in
theorem i172_221 : INS 172 221 = some (0, 2, 6, 0, .null, []) := rfl
set_option maxRecDepth 100000 in
theorem i172_223 : INS 172 223 = some (18, 1, 20, 0, .null, []) := rfl
set_option maxRecDepth 100000 in
theorem i172_224 : INS 172 224 = some (2, 2, 0, 0, .int 6, []) := rfl
set_option maxRecDepth 100000 in
theorem i172_226 : INS 172 226 = some (10, 3, 307, 1, .null, []) := rfl
set_option maxRecDepth 100000 in
theorem i172_229 : INS 172 229 = some (0, 1, 3, 0, .null, []) := rfl
set_option maxRecDepth 100000 in
theorem i172_230 : INS 172 230 = some (9, 3, 243, 1, .null, []) := rfl
set_option maxRecDepth 100000 in
theorem i172_233 : INS 172 233 = some (0, 1, 0, 2, .null, []) := rfl
set_option maxRecDepth 100000 in
theorem i172_234 : INS 172 234 = some (16, 3, 11, 20, .null, []) := rfl
set_option maxRecDepth 100000 in
theorem i172_237 : INS 172 237 = some (0, 2, 7, 0, .null, []) := rfl
set_option maxRecDepth 100000 in
theorem i172_239 : INS 172 239 = some (18, 1, 22, 0, .null, []) := rfl
set_option maxRecDepth 100000 in
theorem i172_240 : INS 172 240 = some (9, 3, 247, 0, .null, []) := rfl
set_option maxRecDepth 100000 in
theorem i172_243 : INS 172 243 = some (2, 1, 0, 0, .int 1, []) := rfl
set_option maxRecDepth 100000 in
theorem i172_244 : INS 172 244 = some (12, 3, 248, 0, .null, []) := rfl
set_option maxRecDepth 100000 in
theorem i172_247 : INS 172 247 = some (2, 1, 0, 0, .int 0, []) := rfl
set_option maxRecDepth 100000 in
theorem i172_248 : INS 172 248 = some (1, 1, 3, 0, .null, []) := rfl
set_option maxRecDepth 100000 in
theorem i172_249 : INS 172 249 = some (0, 1, 0, 2, .null, []) := rfl
set_option maxRecDepth 100000 in
theorem i172_250 : INS 172 250 = some (16, 3, 11, 42, .null, []) := rfl
set_option maxRecDepth 100000 in
theorem i172_253 : INS 172 253 = some (2, 1, 0, 0, .int 5, []) := rfl
set_option maxRecDepth 100000 in
theorem i172_254 : INS 172 254 = some (0, 2, 6, 0, .null, []) := rfl
set_option maxRecDepth 100000 in
theorem i172_256 : INS 172 256 = some (3, 1, 2, 0, .null, []) := rfl
set_option maxRecDepth 100000 in
theorem i172_257 : INS 172 257 = some (2, 1, 0, 0, .int 4, []) := rfl
set_option maxRecDepth 100000 in
theorem i172_258 : INS 172 258 = some (3, 1, 0, 0, .null, []) := rfl
set_option maxRecDepth 100000 in
theorem i172_259 : INS 172 259 = some (0, 1, 0, 2, .null, []) := rfl
set_option maxRecDepth 100000 in
theorem i172_260 : INS 172 260 = some (16, 3, 11, 20, .null, []) := rfl
set_option maxRecDepth 100000 in
theorem i172_263 : INS 172 263 = some (0, 2, 7, 0, .null, []) := rfl
set_option maxRecDepth 100000 in
theorem i172_265 : INS 172 265 = some (18, 1, 22, 0, .null, []) := rfl
set_option maxRecDepth 100000 in
theorem i172_266 : INS 172 266 = some (9, 3, 291, 1, .null, []) := rfl
set_option maxRecDepth 100000 in
theorem i172_269 : INS 172 269 = some (0, 1, 0, 2, .null, []) := rfl
set_option maxRecDepth 100000 in
theorem i172_270 : INS 172 270 = some (16, 3, 11, 18, .null, []) := rfl
set_option maxRecDepth 100000 in
theorem i172_273 : INS 172 273 = some (0, 2, 7, 0, .null, []) := rfl
set_option maxRecDepth 100000 in
theorem i172_275 : INS 172 275 = some (18, 1, 20, 0, .null, []) := rfl
set_option maxRecDepth 100000 in
theorem i172_276 : INS 172 276 = some (0, 1, 0, 2, .null, []) := rfl
set_option maxRecDepth 100000 in
theorem i172_277 : INS 172 277 = some (16, 3, 11, 2, .null, []) := rfl
set_option maxRecDepth 100000 in
theorem i172_280 : INS 172 280 = some (0, 1, 0, 2, .null, []) := rfl
set_option maxRecDepth 100000 in
theorem i172_281 : INS 172 281 = some (16, 3, 11, 10, .null, []) := rfl
set_option maxRecDepth 100000 in
theorem i172_284 : INS 172 284 = some (0, 2, 6, 0, .null, []) := rfl
set_option maxRecDepth 100000 in
theorem i172_286 : INS 172 286 = some (18, 1, 20, 0, .null, []) := rfl
set_option maxRecDepth 100000 in
theorem i172_287 : INS 172 287 = some (18, 1, 20, 0, .null, []) := rfl
set_option maxRecDepth 100000 in
theorem i172_288 : INS 172 288 = some (10, 3, 295, 5, .null, []) := rfl
set_option maxRecDepth 100000 in
theorem i172_291 : INS 172 291 = some (2, 1, 0, 0, .int 0, []) := rfl
set_option maxRecDepth 100000 in
theorem i172_292 : INS 172 292 = some (12, 3, 306, 0, .null, []) := rfl
set_option maxRecDepth 100000 in
theorem i172_295 : INS 172 295 = some (0, 1, 0, 2, .null, []) := rfl
set_option maxRecDepth 100000 in
theorem i172_296 : INS 172 296 = some (16, 3, 11, 42, .null, []) := rfl
set_option maxRecDepth 100000 in
theorem i172_299 : INS 172 299 = some (2, 1, 0, 0, .int 5, []) := rfl
set_option maxRecDepth 100000 in
theorem i172_300 : INS 172 300 = some (0, 2, 6, 0, .null, []) := rfl
set_option maxRecDepth 100000 in
theorem i172_302 : INS 172 302 = some (3, 1, 2, 0, .null, []) := rfl
set_option maxRecDepth 100000 in
theorem i172_303 : INS 172 303 = some (2, 1, 0, 0, .int 4, []) := rfl
set_option maxRecDepth 100000 in
theorem i172_304 : INS 172 304 = some (3, 1, 0, 0, .null, []) := rfl
set_option maxRecDepth 100000 in
theorem i172_305 : INS 172 305 = some (18, 1, 20, 0, .null, []) := rfl
set_option maxRecDepth 100000 in
theorem i172_306 : INS 172 306 = some (19, 1, 20, 0, .null, []) := rfl
set_option maxRecDepth 100000 in
theorem i172_307 : INS 172 307 = some (15, 3, 6, 0, .int 1, []) := rfl
set_option maxRecDepth 100000 in
theorem i172_310 : INS 172 310 = some (12, 3, 123, 0, .null, []) := rfl
set_option maxRecDepth 100000 in
theorem i172_313 : INS 172 313 = some (15, 3, 4, 0, .int 1, []) := rfl
set_option maxRecDepth 100000 in
theorem i172_316 : INS 172 316 = some (12, 3, 90, 0, .null, []) := rfl
set_option maxRecDepth 100000 in
theorem i172_319 : INS 172 319 = some (2, 1, 0, 0, .int 0, []) := rfl
set_option maxRecDepth 100000 in
theorem i172_320 : INS 172 320 = some (1, 2, 4, 0, .null, []) := rfl
set_option maxRecDepth 100000 in
theorem i172_322 : INS 172 322 = some (0, 2, 4, 0, .null, []) := rfl
set_option maxRecDepth 100000 in
theorem i172_324 : INS 172 324 = some (2, 3, 0, 0, .int 144, []) := rfl
set_option maxRecDepth 100000 in
theorem i172_327 : INS 172 327 = some (10, 3, 424, 3, .null, []) := rfl
set_option maxRecDepth 100000 in
theorem i172_330 : INS 172 330 = some (0, 1, 0, 2, .null, []) := rfl
set_option maxRecDepth 100000 in
theorem i172_331 : INS 172 331 = some (16, 3, 11, 42, .null, []) := rfl
set_option maxRecDepth 100000 in
theorem i172_334 : INS 172 334 = some (2, 1, 0, 0, .int 5, []) := rfl
set_option maxRecDepth 100000 in
theorem i172_335 : INS 172 335 = some (0, 2, 4, 0, .null, []) := rfl
set_option maxRecDepth 100000 in
theorem i172_337 : INS 172 337 = some (3, 1, 2, 0, .null, []) := rfl
set_option maxRecDepth 100000 in
theorem i172_338 : INS 172 338 = some (0, 1, 0, 2, .null, []) := rfl
set_option maxRecDepth 100000 in
theorem i172_339 : INS 172 339 = some (16, 3, 11, 37, .null, []) := rfl
set_option maxRecDepth 100000 in
theorem i172_342 : INS 172 342 = some (0, 2, 4, 0, .null, []) := rfl
set_option maxRecDepth 100000 in
theorem i172_344 : INS 172 344 = some (18, 1, 20, 0, .null, []) := rfl
set_option maxRecDepth 100000 in
theorem i172_345 : INS 172 345 = some (19, 1, 20, 0, .null, []) := rfl
set_option maxRecDepth 100000 in
theorem i172_346 : INS 172 346 = some (0, 1, 0, 2, .null, []) := rfl
set_option maxRecDepth 100000 in
theorem i172_347 : INS 172 347 = some (16, 3, 11, 42, .null, []) := rfl
set_option maxRecDepth 100000 in
theorem i172_350 : INS 172 350 = some (2, 1, 0, 0, .int 5, []) := rfl
set_option maxRecDepth 100000 in
theorem i172_351 : INS 172 351 = some (0, 2, 4, 0, .null, []) := rfl
set_option maxRecDepth 100000 in
theorem i172_353 : INS 172 353 = some (3, 1, 2, 0, .null, []) := rfl
set_option maxRecDepth 100000 in
theorem i172_354 : INS 172 354 = some (2, 1, 0, 0, .int 1, []) := rfl
set_option maxRecDepth 100000 in
theorem i172_355 : INS 172 355 = some (3, 1, 0, 0, .null, []) := rfl
set_option maxRecDepth 100000 in
theorem i172_356 : INS 172 356 = some (0, 1, 0, 2, .null, []) := rfl
set_option maxRecDepth 100000 in
theorem i172_357 : INS 172 357 = some (16, 3, 11, 38, .null, []) := rfl
set_option maxRecDepth 100000 in
theorem i172_360 : INS 172 360 = some (0, 2, 4, 0, .null, []) := rfl
set_option maxRecDepth 100000 in
theorem i172_362 : INS 172 362 = some (18, 1, 20, 0, .null, []) := rfl
set_option maxRecDepth 100000 in
theorem i172_363 : INS 172 363 = some (19, 1, 20, 0, .null, []) := rfl
set_option maxRecDepth 100000 in
theorem i172_364 : INS 172 364 = some (0, 1, 0, 2, .null, []) := rfl
set_option maxRecDepth 100000 in
theorem i172_365 : INS 172 365 = some (16, 3, 11, 42, .null, []) := rfl
set_option maxRecDepth 100000 in
theorem i172_368 : INS 172 368 = some (2, 1, 0, 0, .int 5, []) := rfl
set_option maxRecDepth 100000 in
theorem i172_369 : INS 172 369 = some (0, 2, 4, 0, .null, []) := rfl
set_option maxRecDepth 100000 in
theorem i172_371 : INS 172 371 = some (3, 1, 2, 0, .null, []) := rfl
set_option maxRecDepth 100000 in
theorem i172_372 : INS 172 372 = some (2, 1, 0, 0, .int 2, []) := rfl
set_option maxRecDepth 100000 in
theorem i172_373 : INS 172 373 = some (3, 1, 0, 0, .null, []) := rfl
set_option maxRecDepth 100000 in
theorem i172_374 : INS 172 374 = some (0, 1, 0, 2, .null, []) := rfl
set_option maxRecDepth 100000 in
theorem i172_375 : INS 172 375 = some (16, 3, 11, 39, .null, []) := rfl
set_option maxRecDepth 100000 in
theorem i172_378 : INS 172 378 = some (0, 2, 4, 0, .null, []) := rfl
set_option maxRecDepth 100000 in
theorem i172_380 : INS 172 380 = some (18, 1, 20, 0, .null, []) := rfl
set_option maxRecDepth 100000 in
theorem i172_381 : INS 172 381 = some (19, 1, 20, 0, .null, []) := rfl
set_option maxRecDepth 100000 in
theorem i172_382 : INS 172 382 = some (0, 1, 0, 2, .null, []) := rfl
set_option maxRecDepth 100000 in
theorem i172_383 : INS 172 383 = some (16, 3, 11, 42, .null, []) := rfl
set_option maxRecDepth 100000 in
theorem i172_386 : INS 172 386 = some (2, 1, 0, 0, .int 5, []) := rfl
set_option maxRecDepth 100000 in
theorem i172_387 : INS 172 387 = some (0, 2, 4, 0, .null, []) := rfl
set_option maxRecDepth 100000 in
theorem i172_389 : INS 172 389 = some (3, 1, 2, 0, .null, []) := rfl
set_option maxRecDepth 100000 in
theorem i172_390 : INS 172 390 = some (2, 1, 0, 0, .int 3, []) := rfl
set_option maxRecDepth 100000 in
theorem i172_391 : INS 172 391 = some (3, 1, 0, 0, .null, []) := rfl
set_option maxRecDepth 100000 in
theorem i172_392 : INS 172 392 = some (0, 1, 0, 2, .null, []) := rfl
set_option maxRecDepth 100000 in
theorem i172_393 : INS 172 393 = some (16, 3, 11, 38, .null, []) := rfl
set_option maxRecDepth 100000 in
theorem i172_396 : INS 172 396 = some (0, 2, 4, 0, .null, []) := rfl
set_option maxRecDepth 100000 in
theorem i172_398 : INS 172 398 = some (18, 1, 20, 0, .null, []) := rfl
set_option maxRecDepth 100000 in
theorem i172_399 : INS 172 399 = some (9, 3, 406, 5, .null, []) := rfl
set_option maxRecDepth 100000 in
theorem i172_402 : INS 172 402 = some (2, 1, 0, 0, .int 0, []) := rfl
set_option maxRecDepth 100000 in
theorem i172_403 : INS 172 403 = some (12, 3, 417, 0, .null, []) := rfl
set_option maxRecDepth 100000 in
theorem i172_406 : INS 172 406 = some (0, 1, 0, 2, .null, []) := rfl
set_option maxRecDepth 100000 in
theorem i172_407 : INS 172 407 = some (16, 3, 11, 42, .null, []) := rfl
set_option maxRecDepth 100000 in
theorem i172_410 : INS 172 410 = some (2, 1, 0, 0, .int 5, []) := rfl
set_option maxRecDepth 100000 in
theorem i172_411 : INS 172 411 = some (0, 2, 4, 0, .null, []) := rfl
set_option maxRecDepth 100000 in
theorem i172_413 : INS 172 413 = some (3, 1, 2, 0, .null, []) := rfl
set_option maxRecDepth 100000 in
theorem i172_414 : INS 172 414 = some (2, 1, 0, 0, .int 3, []) := rfl
set_option maxRecDepth 100000 in
theorem i172_415 : INS 172 415 = some (3, 1, 0, 0, .null, []) := rfl
set_option maxRecDepth 100000 in
theorem i172_416 : INS 172 416 = some (18, 1, 20, 0, .null, []) := rfl
set_option maxRecDepth 100000 in
theorem i172_417 : INS 172 417 = some (19, 1, 20, 0, .null, []) := rfl
set_option maxRecDepth 100000 in
theorem i172_418 : INS 172 418 = some (15, 3, 4, 0, .int 1, []) := rfl
set_option maxRecDepth 100000 in
theorem i172_421 : INS 172 421 = some (12, 3, 322, 0, .null, []) := rfl
set_option maxRecDepth 100000 in
theorem i172_424 : INS 172 424 = some (0, 1, 0, 2, .null, []) := rfl
set_option maxRecDepth 100000 in
theorem i172_425 : INS 172 425 = some (16, 3, 11, 41, .null, []) := rfl
set_option maxRecDepth 100000 in
theorem i172_428 : INS 172 428 = some (2, 1, 0, 0, .int 2, []) := rfl
set_option maxRecDepth 100000 in
theorem i172_429 : INS 172 429 = some (0, 1, 0, 2, .null, []) := rfl
set_option maxRecDepth 100000 in
theorem i172_430 : INS 172 430 = some (16, 3, 11, 35, .null, []) := rfl
set_option maxRecDepth 100000 in
theorem i172_433 : INS 172 433 = some (19, 1, 20, 0, .null, []) := rfl
set_option maxRecDepth 100000 in
theorem i172_434 : INS 172 434 = some (0, 1, 0, 2, .null, []) := rfl
set_option maxRecDepth 100000 in
theorem i172_435 : INS 172 435 = some (16, 3, 11, 41, .null, []) := rfl
set_option maxRecDepth 100000 in
theorem i172_438 : INS 172 438 = some (2, 1, 0, 0, .int 3, []) := rfl
set_option maxRecDepth 100000 in
theorem i172_439 : INS 172 439 = some (0, 1, 2, 0, .null, []) := rfl
set_option maxRecDepth 100000 in
theorem i172_440 : INS 172 440 = some (19, 1, 20, 0, .null, []) := rfl
set_option maxRecDepth 100000 in
theorem i172_441 : INS 172 441 = some (0, 1, 0, 2, .null, []) := rfl
set_option maxRecDepth 100000 in
theorem i172_442 : INS 172 442 = some (16, 3, 11, 41, .null, []) := rfl
set_option maxRecDepth 100000 in
theorem i172_445 : INS 172 445 = some (2, 1, 0, 0, .int 4, []) := rfl
set_option maxRecDepth 100000 in
theorem i172_446 : INS 172 446 = some (0, 1, 0, 2, .null, []) := rfl
set_option maxRecDepth 100000 in
theorem i172_447 : INS 172 447 = some (16, 3, 11, 36, .null, []) := rfl
set_option maxRecDepth 100000 in
theorem i172_450 : INS 172 450 = some (9, 3, 457, 1, .null, []) := rfl
set_option maxRecDepth 100000 in
theorem i172_453 : INS 172 453 = some (0, 1, 3, 0, .null, []) := rfl
set_option maxRecDepth 100000 in
theorem i172_454 : INS 172 454 = some (9, 3, 461, 0, .null, []) := rfl
set_option maxRecDepth 100000 in
theorem i172_457 : INS 172 457 = some (2, 1, 0, 0, .int 0, []) := rfl
set_option maxRecDepth 100000 in
theorem i172_458 : INS 172 458 = some (12, 3, 462, 0, .null, []) := rfl
set_option maxRecDepth 100000 in
theorem i172_461 : INS 172 461 = some (2, 1, 0, 0, .int 1, []) := rfl
set_option maxRecDepth 100000 in
theorem i172_462 : INS 172 462 = some (19, 1, 20, 0, .null, []) := rfl
set_option maxRecDepth 100000 in
theorem i172_463 : INS 172 463 = some (27, 1, 3, 0, .null, []) := rfl
set_option maxRecDepth 100000 in
theorem i173_0 : INS 173 0 = some (0, 1, 1, 0, .null, []) := rfl
set_option maxRecDepth 100000 in
theorem i173_1 : INS 173 1 = some (2, 1, 0, 0, .int 1, []) := rfl
set_option maxRecDepth 100000 in
theorem i173_2 : INS 173 2 = some (2, 3, 0, 0, .int 400, []) := rfl
set_option maxRecDepth 100000 in
theorem i173_5 : INS 173 5 = some (24, 3, 123, 2, .null, []) := rfl
set_option maxRecDepth 100000 in
theorem i173_8 : INS 173 8 = some (9, 3, 18, 1, .null, []) := rfl
set_option maxRecDepth 100000 in
theorem i173_11 : INS 173 11 = some (0, 1, 0, 2, .null, []) := rfl
set_option maxRecDepth 100000 in
theorem i173_12 : INS 173 12 = some (2, 2, 0, 0, .int (-6), []) := rfl
set_option maxRecDepth 100000 in
theorem i173_14 : INS 173 14 = some (24, 3, 124, 0, .null, []) := rfl
set_option maxRecDepth 100000 in
theorem i173_17 : INS 173 17 = some (27, 1, 0, 0, .null, []) := rfl
set_option maxRecDepth 100000 in
theorem i173_18 : INS 173 18 = some (0, 1, 0, 2, .null, []) := rfl
set_option maxRecDepth 100000 in
theorem i173_19 : INS 173 19 = some (2, 1, 0, 0, .int 0, []) := rfl
set_option maxRecDepth 100000 in
theorem i173_20 : INS 173 20 = some (17, 3, 11, 40, .null, []) := rfl
set_option maxRecDepth 100000 in
theorem i173_23 : INS 173 23 = some (0, 1, 0, 2, .null, []) := rfl
set_option maxRecDepth 100000 in
theorem i173_24 : INS 173 24 = some (2, 1, 0, 0, .int 4, []) := rfl
set_option maxRecDepth 100000 in
theorem i173_25 : INS 173 25 = some (0, 1, 1, 0, .null, []) := rfl
set_option maxRecDepth 100000 in
theorem i173_26 : INS 173 26 = some (3, 1, 2, 0, .null, []) := rfl
set_option maxRecDepth 100000 in
theorem i173_27 : INS 173 27 = some (24, 3, 169, 0, .null, []) := rfl
set_option maxRecDepth 100000 in
theorem i173_30 : INS 173 30 = some (1, 1, 2, 0, .null, []) := rfl
set_option maxRecDepth 100000 in
theorem i173_31 : INS 173 31 = some (0, 1, 2, 0, .null, []) := rfl
set_option maxRecDepth 100000 in
theorem i173_32 : INS 173 32 = some (9, 3, 40, 0, .null, []) := rfl
set_option maxRecDepth 100000 in
theorem i173_35 : INS 173 35 = some (0, 1, 2, 0, .null, []) := rfl
set_option maxRecDepth 100000 in
theorem i173_36 : INS 173 36 = some (0, 1, 1, 0, .null, []) := rfl
set_option maxRecDepth 100000 in
theorem i173_37 : INS 173 37 = some (10, 3, 42, 5, .null, []) := rfl
set_option maxRecDepth 100000 in
theorem i173_40 : INS 173 40 = some (2, 1, 0, 0, .int 0, []) := rfl
set_option maxRecDepth 100000 in
theorem i173_41 : INS 173 41 = some (27, 1, 0, 0, .null, []) := rfl
set_option maxRecDepth 100000 in
theorem i173_42 : INS 173 42 = some (0, 1, 0, 2, .null, []) := rfl
set_option maxRecDepth 100000 in
theorem i173_43 : INS 173 43 = some (0, 1, 2, 0, .null, []) := rfl
set_option maxRecDepth 100000 in
theorem i173_44 : INS 173 44 = some (0, 1, 1, 0, .null, []) := rfl
set_option maxRecDepth 100000 in
theorem i173_45 : INS 173 45 = some (24, 3, 170, 0, .null, []) := rfl
set_option maxRecDepth 100000 in
theorem i173_48 : INS 173 48 = some (1, 1, 3, 0, .null, []) := rfl
set_option maxRecDepth 100000 in
theorem i173_49 : INS 173 49 = some (0, 1, 3, 0, .null, []) := rfl
set_option maxRecDepth 100000 in
theorem i173_50 : INS 173 50 = some (0, 1, 2, 0, .null, []) := rfl
set_option maxRecDepth 100000 in
theorem i173_51 : INS 173 51 = some (3, 1, 0, 0, .null, []) := rfl
set_option maxRecDepth 100000 in
theorem i173_52 : INS 173 52 = some (0, 1, 1, 0, .null, []) := rfl
set_option maxRecDepth 100000 in
theorem i173_53 : INS 173 53 = some (10, 3, 58, 5, .null, []) := rfl
set_option maxRecDepth 100000 in
theorem i173_56 : INS 173 56 = some (2, 1, 0, 0, .int 0, []) := rfl
set_option maxRecDepth 100000 in
theorem i173_57 : INS 173 57 = some (27, 1, 0, 0, .null, []) := rfl
set_option maxRecDepth 100000 in
theorem i173_58 : INS 173 58 = some (0, 1, 0, 2, .null, []) := rfl
set_option maxRecDepth 100000 in
theorem i173_59 : INS 173 59 = some (2, 1, 0, 0, .int 1, []) := rfl
set_option maxRecDepth 100000 in
theorem i173_60 : INS 173 60 = some (17, 3, 11, 40, .null, []) := rfl
set_option maxRecDepth 100000 in
theorem i173_63 : INS 173 63 = some (0, 1, 0, 2, .null, []) := rfl
set_option maxRecDepth 100000 in
theorem i173_64 : INS 173 64 = some (16, 3, 11, 41, .null, []) := rfl
set_option maxRecDepth 100000 in
theorem i173_67 : INS 173 67 = some (2, 1, 0, 0, .int 0, []) := rfl
set_option maxRecDepth 100000 in
theorem i173_68 : INS 173 68 = some (0, 1, 3, 0, .null, []) := rfl
set_option maxRecDepth 100000 in
theorem i173_69 : INS 173 69 = some (19, 1, 20, 0, .null, []) := rfl
set_option maxRecDepth 100000 in
theorem i173_70 : INS 173 70 = some (0, 1, 0, 2, .null, []) := rfl
set_option maxRecDepth 100000 in
theorem i173_71 : INS 173 71 = some (16, 3, 11, 41, .null, []) := rfl
set_option maxRecDepth 100000 in
theorem i173_74 : INS 173 74 = some (2, 1, 0, 0, .int 1, []) := rfl
set_option maxRecDepth 100000 in
theorem i173_75 : INS 173 75 = some (0, 1, 2, 0, .null, []) := rfl
set_option maxRecDepth 100000 in
theorem i173_76 : INS 173 76 = some (19, 1, 20, 0, .null, []) := rfl
set_option maxRecDepth 100000 in
theorem i173_77 : INS 173 77 = some (0, 1, 0, 2, .null, []) := rfl
set_option maxRecDepth 100000 in
theorem i173_78 : INS 173 78 = some (0, 1, 2, 0, .null, []) := rfl
set_option maxRecDepth 100000 in
theorem i173_79 : INS 173 79 = some (24, 3, 172, 0, .null, []) := rfl
set_option maxRecDepth 100000 in
theorem i173_82 : INS 173 82 = some (0, 1, 2, 0, .null, []) := rfl
set_option maxRecDepth 100000 in
theorem i173_83 : INS 173 83 = some (27, 1, 0, 0, .null, []) := rfl
set_option maxRecDepth 100000 in
theorem i174_0 : INS 174 0 = some (0, 1, 0, 2, .null, []) := rfl
set_option maxRecDepth 100000 in
theorem i174_1 : INS 174 1 = some (16, 3, 11, 40, .null, []) := rfl
set_option maxRecDepth 100000 in
theorem i174_4 : INS 174 4 = some (9, 3, 25, 0, .null, []) := rfl
set_option maxRecDepth 100000 in
theorem i174_7 : INS 174 7 = some (0, 1, 1, 0, .null, []) := rfl
set_option maxRecDepth 100000 in
theorem i174_8 : INS 174 8 = some (2, 1, 0, 0, .int 0, []) := rfl
set_option maxRecDepth 100000 in
theorem i174_9 : INS 174 9 = some (2, 1, 0, 0, .int 4, []) := rfl
set_option maxRecDepth 100000 in
theorem i174_10 : INS 174 10 = some (24, 3, 123, 2, .null, []) := rfl
set_option maxRecDepth 100000 in
theorem i174_13 : INS 174 13 = some (9, 3, 25, 0, .null, []) := rfl
set_option maxRecDepth 100000 in
theorem i174_16 : INS 174 16 = some (0, 1, 0, 2, .null, []) := rfl
set_option maxRecDepth 100000 in
theorem i174_17 : INS 174 17 = some (16, 3, 11, 41, .null, []) := rfl
set_option maxRecDepth 100000 in
theorem i174_20 : INS 174 20 = some (0, 1, 1, 0, .null, []) := rfl
set_option maxRecDepth 100000 in
theorem i174_21 : INS 174 21 = some (18, 1, 20, 0, .null, []) := rfl
set_option maxRecDepth 100000 in
theorem i174_22 : INS 174 22 = some (12, 3, 26, 0, .null, []) := rfl
set_option maxRecDepth 100000 in
theorem i174_25 : INS 174 25 = some (2, 1, 0, 0, .int (-1), []) := rfl
set_option maxRecDepth 100000 in
theorem i174_26 : INS 174 26 = some (27, 1, 0, 0, .null, []) := rfl
set_option maxRecDepth 100000 in
theorem i175_0 : INS 175 0 = some (0, 1, 0, 2, .null, []) := rfl
set_option maxRecDepth 100000 in
theorem i175_1 : INS 175 1 = some (16, 3, 11, 40, .null, []) := rfl
set_option maxRecDepth 100000 in
theorem i175_4 : INS 175 4 = some (9, 3, 45, 0, .null, []) := rfl
set_option maxRecDepth 100000 in
theorem i175_7 : INS 175 7 = some (0, 1, 1, 0, .null, []) := rfl
set_option maxRecDepth 100000 in
theorem i175_8 : INS 175 8 = some (24, 3, 125, 2, .null, []) := rfl
set_option maxRecDepth 100000 in
theorem i175_11 : INS 175 11 = some (9, 3, 45, 0, .null, []) := rfl
set_option maxRecDepth 100000 in
theorem i175_14 : INS 175 14 = some (0, 1, 0, 2, .null, []) := rfl
set_option maxRecDepth 100000 in
theorem i175_15 : INS 175 15 = some (16, 3, 11, 43, .null, []) := rfl
set_option maxRecDepth 100000 in
theorem i175_18 : INS 175 18 = some (0, 1, 1, 0, .null, []) := rfl
set_option maxRecDepth 100000 in
theorem i175_19 : INS 175 19 = some (18, 1, 22, 0, .null, []) := rfl
set_option maxRecDepth 100000 in
theorem i175_20 : INS 175 20 = some (9, 3, 45, 0, .null, []) := rfl
set_option maxRecDepth 100000 in
theorem i175_23 : INS 175 23 = some (0, 1, 2, 0, .null, []) := rfl
set_option maxRecDepth 100000 in
theorem i175_24 : INS 175 24 = some (2, 1, 0, 0, .int 0, []) := rfl
set_option maxRecDepth 100000 in
theorem i175_25 : INS 175 25 = some (2, 1, 0, 0, .int 4, []) := rfl
set_option maxRecDepth 100000 in
theorem i175_26 : INS 175 26 = some (24, 3, 123, 2, .null, []) := rfl
set_option maxRecDepth 100000 in
theorem i175_29 : INS 175 29 = some (9, 3, 45, 0, .null, []) := rfl
set_option maxRecDepth 100000 in
theorem i175_32 : INS 175 32 = some (0, 1, 0, 2, .null, []) := rfl
set_option maxRecDepth 100000 in
theorem i175_33 : INS 175 33 = some (16, 3, 11, 42, .null, []) := rfl
set_option maxRecDepth 100000 in
theorem i175_36 : INS 175 36 = some (2, 1, 0, 0, .int 5, []) := rfl
set_option maxRecDepth 100000 in
theorem i175_37 : INS 175 37 = some (0, 1, 1, 0, .null, []) := rfl
set_option maxRecDepth 100000 in
theorem i175_38 : INS 175 38 = some (3, 1, 2, 0, .null, []) := rfl
set_option maxRecDepth 100000 in
theorem i175_39 : INS 175 39 = some (0, 1, 2, 0, .null, []) := rfl
set_option maxRecDepth 100000 in
theorem i175_40 : INS 175 40 = some (3, 1, 0, 0, .null, []) := rfl
set_option maxRecDepth 100000 in
theorem i175_41 : INS 175 41 = some (18, 1, 20, 0, .null, []) := rfl
set_option maxRecDepth 100000 in
theorem i175_42 : INS 175 42 = some (12, 3, 46, 0, .null, []) := rfl
set_option maxRecDepth 100000 in
theorem i175_45 : INS 175 45 = some (2, 1, 0, 0, .int (-1), []) := rfl
set_option maxRecDepth 100000 in
theorem i175_46 : INS 175 46 = some (27, 1, 0, 0, .null, []) := rfl
set_option maxRecDepth 100000 in
theorem i176_0 : INS 176 0 = some (0, 1, 1, 0, .null, []) := rfl
set_option maxRecDepth 100000 in
theorem i176_1 : INS 176 1 = some (24, 3, 125, 2, .null, []) := rfl
set_option maxRecDepth 100000 in
theorem i176_4 : INS 176 4 = some (9, 3, 17, 0, .null, []) := rfl
set_option maxRecDepth 100000 in
theorem i176_7 : INS 176 7 = some (0, 1, 2, 0, .null, []) := rfl
set_option maxRecDepth 100000 in
theorem i176_8 : INS 176 8 = some (2, 1, 0, 0, .int 0, []) := rfl
set_option maxRecDepth 100000 in
theorem i176_9 : INS 176 9 = some (2, 2, 0, 0, .int 14, []) := rfl
set_option maxRecDepth 100000 in
theorem i176_11 : INS 176 11 = some (24, 3, 123, 2, .null, []) := rfl
set_option maxRecDepth 100000 in
theorem i176_14 : INS 176 14 = some (9, 3, 19, 1, .null, []) := rfl
set_option maxRecDepth 100000 in
theorem i176_17 : INS 176 17 = some (2, 1, 0, 0, .int (-1), []) := rfl
set_option maxRecDepth 100000 in
theorem i176_18 : INS 176 18 = some (27, 1, 0, 0, .null, []) := rfl
set_option maxRecDepth 100000 in
theorem i176_19 : INS 176 19 = some (0, 1, 0, 2, .null, []) := rfl
set_option maxRecDepth 100000 in
theorem i176_20 : INS 176 20 = some (16, 3, 11, 8, .null, []) := rfl
set_option maxRecDepth 100000 in
theorem i176_23 : INS 176 23 = some (0, 1, 1, 0, .null, []) := rfl
set_option maxRecDepth 100000 in
theorem i176_24 : INS 176 24 = some (18, 1, 20, 0, .null, []) := rfl
set_option maxRecDepth 100000 in
theorem i176_25 : INS 176 25 = some (9, 3, 30, 1, .null, []) := rfl
set_option maxRecDepth 100000 in
theorem i176_28 : INS 176 28 = some (2, 1, 0, 0, .int 0, []) := rfl
set_option maxRecDepth 100000 in
theorem i176_29 : INS 176 29 = some (27, 1, 0, 0, .null, []) := rfl
set_option maxRecDepth 100000 in
theorem i176_30 : INS 176 30 = some (0, 1, 2, 0, .null, []) := rfl
set_option maxRecDepth 100000 in
theorem i176_31 : INS 176 31 = some (13, 69, 212, 0, .null, [100, 107, 114, 121, 128, 135, 142, 157, 166, 177, 184, 191, 198, 205]) := rfl
set_option maxRecDepth 100000 in
theorem i176_100 : INS 176 100 = some (0, 1, 0, 2, .null, []) := rfl
set_option maxRecDepth 100000 in
theorem i176_101 : INS 176 101 = some (16, 3, 11, 8, .null, []) := rfl
set_option maxRecDepth 100000 in
theorem i176_104 : INS 176 104 = some (0, 1, 1, 0, .null, []) := rfl
set_option maxRecDepth 100000 in
theorem i176_105 : INS 176 105 = some (18, 1, 20, 0, .null, []) := rfl
set_option maxRecDepth 100000 in
theorem i176_106 : INS 176 106 = some (27, 1, 0, 0, .null, []) := rfl
set_option maxRecDepth 100000 in
theorem i176_107 : INS 176 107 = some (0, 1, 0, 2, .null, []) := rfl
set_option maxRecDepth 100000 in
theorem i176_108 : INS 176 108 = some (16, 3, 11, 9, .null, []) := rfl
set_option maxRecDepth 100000 in
theorem i176_111 : INS 176 111 = some (0, 1, 1, 0, .null, []) := rfl
set_option maxRecDepth 100000 in
theorem i176_112 : INS 176 112 = some (18, 1, 20, 0, .null, []) := rfl
set_option maxRecDepth 100000 in
theorem i176_113 : INS 176 113 = some (27, 1, 0, 0, .null, []) := rfl
set_option maxRecDepth 100000 in
theorem i176_114 : INS 176 114 = some (0, 1, 0, 2, .null, []) := rfl
set_option maxRecDepth 100000 in
theorem i176_115 : INS 176 115 = some (2, 1, 0, 0, .int 0, []) := rfl
set_option maxRecDepth 100000 in
theorem i176_116 : INS 176 116 = some (0, 1, 1, 0, .null, []) := rfl
set_option maxRecDepth 100000 in
theorem i176_117 : INS 176 117 = some (24, 3, 156, 0, .null, []) := rfl
set_option maxRecDepth 100000 in
theorem i176_120 : INS 176 120 = some (27, 1, 0, 0, .null, []) := rfl
set_option maxRecDepth 100000 in
theorem i176_121 : INS 176 121 = some (0, 1, 0, 2, .null, []) := rfl
set_option maxRecDepth 100000 in
theorem i176_122 : INS 176 122 = some (16, 3, 11, 17, .null, []) := rfl
set_option maxRecDepth 100000 in
theorem i176_125 : INS 176 125 = some (0, 1, 1, 0, .null, []) := rfl
set_option maxRecDepth 100000 in
theorem i176_126 : INS 176 126 = some (18, 1, 20, 0, .null, []) := rfl
set_option maxRecDepth 100000 in
theorem i176_127 : INS 176 127 = some (27, 1, 0, 0, .null, []) := rfl
set_option maxRecDepth 100000 in
theorem i176_128 : INS 176 128 = some (0, 1, 0, 2, .null, []) := rfl
set_option maxRecDepth 100000 in
theorem i176_129 : INS 176 129 = some (16, 3, 11, 18, .null, []) := rfl
set_option maxRecDepth 100000 in
theorem i176_132 : INS 176 132 = some (0, 1, 1, 0, .null, []) := rfl
set_option maxRecDepth 100000 in
theorem i176_133 : INS 176 133 = some (18, 1, 20, 0, .null, []) := rfl
set_option maxRecDepth 100000 in
theorem i176_134 : INS 176 134 = some (27, 1, 0, 0, .null, []) := rfl
set_option maxRecDepth 100000 in
theorem i176_135 : INS 176 135 = some (0, 1, 0, 2, .null, []) := rfl
set_option maxRecDepth 100000 in
theorem i176_136 : INS 176 136 = some (16, 3, 11, 19, .null, []) := rfl
set_option maxRecDepth 100000 in
theorem i176_139 : INS 176 139 = some (0, 1, 1, 0, .null, []) := rfl
set_option maxRecDepth 100000 in
theorem i176_140 : INS 176 140 = some (18, 1, 20, 0, .null, []) := rfl
set_option maxRecDepth 100000 in
theorem i176_141 : INS 176 141 = some (27, 1, 0, 0, .null, []) := rfl
set_option maxRecDepth 100000 in
theorem i176_142 : INS 176 142 = some (0, 1, 0, 2, .null, []) := rfl
set_option maxRecDepth 100000 in
theorem i176_143 : INS 176 143 = some (16, 3, 11, 20, .null, []) := rfl
set_option maxRecDepth 100000 in
theorem i176_146 : INS 176 146 = some (0, 1, 1, 0, .null, []) := rfl
set_option maxRecDepth 100000 in
theorem i176_147 : INS 176 147 = some (18, 1, 22, 0, .null, []) := rfl
set_option maxRecDepth 100000 in
theorem i176_148 : INS 176 148 = some (9, 3, 155, 0, .null, []) := rfl
set_option maxRecDepth 100000 in
theorem i176_151 : INS 176 151 = some (2, 1, 0, 0, .int 1, []) := rfl
set_option maxRecDepth 100000 in
theorem i176_152 : INS 176 152 = some (12, 3, 156, 0, .null, []) := rfl
set_option maxRecDepth 100000 in
theorem i176_155 : INS 176 155 = some (2, 1, 0, 0, .int 0, []) := rfl
set_option maxRecDepth 100000 in
theorem i176_156 : INS 176 156 = some (27, 1, 0, 0, .null, []) := rfl
set_option maxRecDepth 100000 in
theorem i176_157 : INS 176 157 = some (0, 1, 0, 2, .null, []) := rfl
set_option maxRecDepth 100000 in
theorem i176_158 : INS 176 158 = some (16, 3, 11, 21, .null, []) := rfl
set_option maxRecDepth 100000 in
theorem i176_161 : INS 176 161 = some (2, 1, 0, 0, .int 2, []) := rfl
set_option maxRecDepth 100000 in
theorem i176_162 : INS 176 162 = some (0, 1, 1, 0, .null, []) := rfl
set_option maxRecDepth 100000 in
theorem i176_163 : INS 176 163 = some (3, 1, 2, 0, .null, []) := rfl
set_option maxRecDepth 100000 in
theorem i176_164 : INS 176 164 = some (18, 1, 20, 0, .null, []) := rfl
set_option maxRecDepth 100000 in
theorem i176_165 : INS 176 165 = some (27, 1, 0, 0, .null, []) := rfl
set_option maxRecDepth 100000 in
theorem i176_166 : INS 176 166 = some (0, 1, 0, 2, .null, []) := rfl
set_option maxRecDepth 100000 in
theorem i176_167 : INS 176 167 = some (16, 3, 11, 21, .null, []) := rfl
set_option maxRecDepth 100000 in
theorem i176_170 : INS 176 170 = some (2, 1, 0, 0, .int 2, []) := rfl
set_option maxRecDepth 100000 in
theorem i176_171 : INS 176 171 = some (0, 1, 1, 0, .null, []) := rfl
set_option maxRecDepth 100000 in
theorem i176_172 : INS 176 172 = some (3, 1, 2, 0, .null, []) := rfl
set_option maxRecDepth 100000 in
theorem i176_173 : INS 176 173 = some (2, 1, 0, 0, .int 1, []) := rfl
set_option maxRecDepth 100000 in
theorem i176_174 : INS 176 174 = some (3, 1, 0, 0, .null, []) := rfl
set_option maxRecDepth 100000 in
theorem i176_175 : INS 176 175 = some (18, 1, 20, 0, .null, []) := rfl
set_option maxRecDepth 100000 in
theorem i176_176 : INS 176 176 = some (27, 1, 0, 0, .null, []) := rfl
set_option maxRecDepth 100000 in
theorem i176_177 : INS 176 177 = some (0, 1, 0, 2, .null, []) := rfl
set_option maxRecDepth 100000 in
theorem i176_178 : INS 176 178 = some (16, 3, 11, 22, .null, []) := rfl
set_option maxRecDepth 100000 in
theorem i176_181 : INS 176 181 = some (0, 1, 1, 0, .null, []) := rfl
set_option maxRecDepth 100000 in
theorem i176_182 : INS 176 182 = some (18, 1, 20, 0, .null, []) := rfl
set_option maxRecDepth 100000 in
theorem i176_183 : INS 176 183 = some (27, 1, 0, 0, .null, []) := rfl
set_option maxRecDepth 100000 in
theorem i176_184 : INS 176 184 = some (0, 1, 0, 2, .null, []) := rfl
set_option maxRecDepth 100000 in
theorem i176_185 : INS 176 185 = some (16, 3, 11, 23, .null, []) := rfl
set_option maxRecDepth 100000 in
theorem i176_188 : INS 176 188 = some (0, 1, 1, 0, .null, []) := rfl
set_option maxRecDepth 100000 in
theorem i176_189 : INS 176 189 = some (18, 1, 20, 0, .null, []) := rfl
set_option maxRecDepth 100000 in
theorem i176_190 : INS 176 190 = some (27, 1, 0, 0, .null, []) := rfl
set_option maxRecDepth 100000 in
theorem i176_191 : INS 176 191 = some (0, 1, 0, 2, .null, []) := rfl
set_option maxRecDepth 100000 in
theorem i176_192 : INS 176 192 = some (16, 3, 11, 10, .null, []) := rfl
set_option maxRecDepth 100000 in
theorem i176_195 : INS 176 195 = some (0, 1, 1, 0, .null, []) := rfl
set_option maxRecDepth 100000 in
theorem i176_196 : INS 176 196 = some (18, 1, 20, 0, .null, []) := rfl
set_option maxRecDepth 100000 in
theorem i176_197 : INS 176 197 = some (27, 1, 0, 0, .null, []) := rfl
set_option maxRecDepth 100000 in
theorem i176_198 : INS 176 198 = some (0, 1, 0, 2, .null, []) := rfl
set_option maxRecDepth 100000 in
theorem i176_199 : INS 176 199 = some (16, 3, 11, 11, .null, []) := rfl
set_option maxRecDepth 100000 in
theorem i176_202 : INS 176 202 = some (0, 1, 1, 0, .null, []) := rfl
set_option maxRecDepth 100000 in
theorem i176_203 : INS 176 203 = some (18, 1, 20, 0, .null, []) := rfl
set_option maxRecDepth 100000 in
theorem i176_204 : INS 176 204 = some (27, 1, 0, 0, .null, []) := rfl
set_option maxRecDepth 100000 in
theorem i176_205 : INS 176 205 = some (0, 1, 0, 2, .null, []) := rfl
set_option maxRecDepth 100000 in
theorem i176_206 : INS 176 206 = some (16, 3, 11, 12, .null, []) := rfl
set_option maxRecDepth 100000 in
theorem i176_209 : INS 176 209 = some (0, 1, 1, 0, .null, []) := rfl
set_option maxRecDepth 100000 in
theorem i176_210 : INS 176 210 = some (18, 1, 20, 0, .null, []) := rfl
set_option maxRecDepth 100000 in
theorem i176_211 : INS 176 211 = some (27, 1, 0, 0, .null, []) := rfl
set_option maxRecDepth 100000 in
theorem i176_212 : INS 176 212 = some (0, 1, 0, 2, .null, []) := rfl
set_option maxRecDepth 100000 in
theorem i176_213 : INS 176 213 = some (16, 3, 11, 13, .null, []) := rfl
set_option maxRecDepth 100000 in
theorem i176_216 : INS 176 216 = some (0, 1, 1, 0, .null, []) := rfl
set_option maxRecDepth 100000 in
theorem i176_217 : INS 176 217 = some (18, 1, 20, 0, .null, []) := rfl
set_option maxRecDepth 100000 in
theorem i176_218 : INS 176 218 = some (27, 1, 0, 0, .null, []) := rfl
set_option maxRecDepth 100000 in
theorem i177_0 : INS 177 0 = some (0, 1, 1, 0, .null, []) := rfl
set_option maxRecDepth 100000 in
theorem i177_1 : INS 177 1 = some (24, 3, 126, 2, .null, []) := rfl
set_option maxRecDepth 100000 in
theorem i177_4 : INS 177 4 = some (9, 3, 16, 0, .null, []) := rfl
set_option maxRecDepth 100000 in
theorem i177_7 : INS 177 7 = some (0, 1, 0, 2, .null, []) := rfl
set_option maxRecDepth 100000 in
theorem i177_8 : INS 177 8 = some (16, 3, 11, 15, .null, []) := rfl
set_option maxRecDepth 100000 in
theorem i177_11 : INS 177 11 = some (0, 1, 1, 0, .null, []) := rfl
set_option maxRecDepth 100000 in
theorem i177_12 : INS 177 12 = some (18, 1, 20, 0, .null, []) := rfl
set_option maxRecDepth 100000 in
theorem i177_13 : INS 177 13 = some (12, 3, 17, 0, .null, []) := rfl
set_option maxRecDepth 100000 in
theorem i177_16 : INS 177 16 = some (2, 1, 0, 0, .int 0, []) := rfl
set_option maxRecDepth 100000 in
theorem i177_17 : INS 177 17 = some (27, 1, 0, 0, .null, []) := rfl
set_option maxRecDepth 100000 in
theorem i178_0 : INS 178 0 = some (0, 1, 0, 1, .null, []) := rfl
set_option maxRecDepth 100000 in
theorem i178_1 : INS 178 1 = some (1, 2, 4, 1, .null, []) := rfl
set_option maxRecDepth 100000 in
theorem i178_3 : INS 178 3 = some (0, 1, 2, 1, .null, []) := rfl
set_option maxRecDepth 100000 in
theorem i178_4 : INS 178 4 = some (1, 2, 6, 1, .null, []) := rfl
set_option maxRecDepth 100000 in
theorem i178_6 : INS 178 6 = some (0, 2, 6, 1, .null, []) := rfl
set_option maxRecDepth 100000 in
theorem i178_8 : INS 178 8 = some (2, 1, 0, 0, .long 0, []) := rfl
set_option maxRecDepth 100000 in
theorem i178_9 : INS 178 9 = some (7, 1, 0, 0, .null, []) := rfl
set_option maxRecDepth 100000 in
theorem i178_10 : INS 178 10 = some (9, 3, 31, 0, .null, []) := rfl
set_option maxRecDepth 100000 in
theorem i178_13 : INS 178 13 = some (0, 2, 4, 1, .null, []) := rfl
set_option maxRecDepth 100000 in
theorem i178_15 : INS 178 15 = some (0, 2, 6, 1, .null, []) := rfl
set_option maxRecDepth 100000 in
theorem i178_17 : INS 178 17 = some (4, 1, 4, 0, .null, []) := rfl
set_option maxRecDepth 100000 in
theorem i178_18 : INS 178 18 = some (1, 2, 8, 1, .null, []) := rfl
set_option maxRecDepth 100000 in
theorem i178_20 : INS 178 20 = some (0, 2, 6, 1, .null, []) := rfl
set_option maxRecDepth 100000 in
theorem i178_22 : INS 178 22 = some (1, 2, 4, 1, .null, []) := rfl
set_option maxRecDepth 100000 in
theorem i178_24 : INS 178 24 = some (0, 2, 8, 1, .null, []) := rfl
set_option maxRecDepth 100000 in
theorem i178_26 : INS 178 26 = some (1, 2, 6, 1, .null, []) := rfl
set_option maxRecDepth 100000 in
theorem i178_28 : INS 178 28 = some (12, 3, 6, 0, .null, []) := rfl
set_option maxRecDepth 100000 in
theorem i178_31 : INS 178 31 = some (0, 2, 4, 1, .null, []) := rfl
set_option maxRecDepth 100000 in
theorem i178_33 : INS 178 33 = some (27, 1, 1, 0, .null, []) := rfl
set_option maxRecDepth 100000 in
theorem i179_0 : INS 179 0 = some (0, 1, 0, 2, .null, []) := rfl
set_option maxRecDepth 100000 in
theorem i179_1 : INS 179 1 = some (16, 3, 11, 46, .null, []) := rfl
set_option maxRecDepth 100000 in
theorem i179_4 : INS 179 4 = some (0, 1, 1, 0, .null, []) := rfl
set_option maxRecDepth 100000 in
theorem i179_5 : INS 179 5 = some (18, 1, 21, 0, .null, []) := rfl
set_option maxRecDepth 100000 in
theorem i179_6 : INS 179 6 = some (0, 2, 4, 1, .null, []) := rfl
set_option maxRecDepth 100000 in
theorem i179_8 : INS 179 8 = some (4, 1, 2, 0, .null, []) := rfl
set_option maxRecDepth 100000 in
theorem i179_9 : INS 179 9 = some (0, 1, 2, 1, .null, []) := rfl
set_option maxRecDepth 100000 in
theorem i179_10 : INS 179 10 = some (0, 1, 0, 2, .null, []) := rfl
set_option maxRecDepth 100000 in
theorem i179_11 : INS 179 11 = some (16, 3, 11, 47, .null, []) := rfl
set_option maxRecDepth 100000 in
theorem i179_14 : INS 179 14 = some (0, 1, 1, 0, .null, []) := rfl
set_option maxRecDepth 100000 in
theorem i179_15 : INS 179 15 = some (18, 1, 21, 0, .null, []) := rfl
set_option maxRecDepth 100000 in
theorem i179_16 : INS 179 16 = some (4, 1, 2, 0, .null, []) := rfl
set_option maxRecDepth 100000 in
theorem i179_17 : INS 179 17 = some (4, 1, 0, 0, .null, []) := rfl
set_option maxRecDepth 100000 in
theorem i179_18 : INS 179 18 = some (1, 2, 6, 1, .null, []) := rfl
set_option maxRecDepth 100000 in
theorem i179_20 : INS 179 20 = some (0, 1, 0, 2, .null, []) := rfl
set_option maxRecDepth 100000 in
theorem i179_21 : INS 179 21 = some (16, 3, 11, 47, .null, []) := rfl
set_option maxRecDepth 100000 in
theorem i179_24 : INS 179 24 = some (0, 1, 1, 0, .null, []) := rfl
set_option maxRecDepth 100000 in
theorem i179_25 : INS 179 25 = some (18, 1, 21, 0, .null, []) := rfl
set_option maxRecDepth 100000 in
theorem i179_26 : INS 179 26 = some (0, 2, 4, 1, .null, []) := rfl
set_option maxRecDepth 100000 in
theorem i179_28 : INS 179 28 = some (4, 1, 2, 0, .null, []) := rfl
set_option maxRecDepth 100000 in
theorem i179_29 : INS 179 29 = some (1, 2, 8, 1, .null, []) := rfl
set_option maxRecDepth 100000 in
theorem i179_31 : INS 179 31 = some (0, 2, 6, 1, .null, []) := rfl
set_option maxRecDepth 100000 in
theorem i179_33 : INS 179 33 = some (0, 2, 8, 1, .null, []) := rfl
set_option maxRecDepth 100000 in
theorem i179_35 : INS 179 35 = some (24, 3, 178, 2, .null, []) := rfl
set_option maxRecDepth 100000 in
theorem i179_38 : INS 179 38 = some (1, 2, 10, 1, .null, []) := rfl
set_option maxRecDepth 100000 in
theorem i179_40 : INS 179 40 = some (0, 1, 0, 2, .null, []) := rfl
set_option maxRecDepth 100000 in
theorem i179_41 : INS 179 41 = some (16, 3, 11, 46, .null, []) := rfl
set_option maxRecDepth 100000 in
theorem i179_44 : INS 179 44 = some (0, 1, 1, 0, .null, []) := rfl
set_option maxRecDepth 100000 in
theorem i179_45 : INS 179 45 = some (0, 2, 6, 1, .null, []) := rfl
set_option maxRecDepth 100000 in
theorem i179_47 : INS 179 47 = some (0, 2, 10, 1, .null, []) := rfl
set_option maxRecDepth 100000 in
theorem i179_49 : INS 179 49 = some (4, 1, 3, 0, .null, []) := rfl
set_option maxRecDepth 100000 in
theorem i179_50 : INS 179 50 = some (19, 1, 21, 0, .null, []) := rfl
set_option maxRecDepth 100000 in
theorem i179_51 : INS 179 51 = some (0, 1, 0, 2, .null, []) := rfl
set_option maxRecDepth 100000 in
theorem i179_52 : INS 179 52 = some (16, 3, 11, 47, .null, []) := rfl
set_option maxRecDepth 100000 in
theorem i179_55 : INS 179 55 = some (0, 1, 1, 0, .null, []) := rfl
set_option maxRecDepth 100000 in
theorem i179_56 : INS 179 56 = some (0, 2, 8, 1, .null, []) := rfl
set_option maxRecDepth 100000 in
theorem i179_58 : INS 179 58 = some (0, 2, 10, 1, .null, []) := rfl
set_option maxRecDepth 100000 in
theorem i179_60 : INS 179 60 = some (4, 1, 3, 0, .null, []) := rfl
set_option maxRecDepth 100000 in
theorem i179_61 : INS 179 61 = some (19, 1, 21, 0, .null, []) := rfl
set_option maxRecDepth 100000 in
theorem i179_62 : INS 179 62 = some (27, 1, 3, 0, .null, []) := rfl
set_option maxRecDepth 100000 in
theorem i180_0 : INS 180 0 = some (2, 1, 0, 0, .int 1, []) := rfl
set_option maxRecDepth 100000 in
theorem i180_1 : INS 180 1 = some (0, 1, 1, 0, .null, []) := rfl
set_option maxRecDepth 100000 in
theorem i180_2 : INS 180 2 = some (3, 1, 8, 0, .null, []) := rfl
set_option maxRecDepth 100000 in
theorem i180_3 : INS 180 3 = some (1, 1, 2, 0, .null, []) := rfl
set_option maxRecDepth 100000 in
theorem i180_4 : INS 180 4 = some (2, 1, 0, 0, .int 0, []) := rfl
set_option maxRecDepth 100000 in
theorem i180_5 : INS 180 5 = some (1, 1, 3, 0, .null, []) := rfl
set_option maxRecDepth 100000 in
theorem i180_6 : INS 180 6 = some (0, 1, 3, 0, .null, []) := rfl
set_option maxRecDepth 100000 in
theorem i180_7 : INS 180 7 = some (2, 2, 0, 0, .int 8, []) := rfl
set_option maxRecDepth 100000 in
theorem i180_9 : INS 180 9 = some (10, 3, 99, 3, .null, []) := rfl
set_option maxRecDepth 100000 in
theorem i180_12 : INS 180 12 = some (2, 1, 0, 0, .int 0, []) := rfl
set_option maxRecDepth 100000 in
theorem i180_13 : INS 180 13 = some (1, 2, 4, 0, .null, []) := rfl
set_option maxRecDepth 100000 in
theorem i180_15 : INS 180 15 = some (0, 2, 4, 0, .null, []) := rfl
set_option maxRecDepth 100000 in
theorem i180_17 : INS 180 17 = some (0, 1, 0, 2, .null, []) := rfl
set_option maxRecDepth 100000 in
theorem i180_18 : INS 180 18 = some (16, 3, 11, 1, .null, []) := rfl
set_option maxRecDepth 100000 in
theorem i180_21 : INS 180 21 = some (10, 3, 93, 3, .null, []) := rfl
set_option maxRecDepth 100000 in
theorem i180_24 : INS 180 24 = some (0, 1, 2, 0, .null, []) := rfl
set_option maxRecDepth 100000 in
theorem i180_25 : INS 180 25 = some (0, 1, 0, 2, .null, []) := rfl
set_option maxRecDepth 100000 in
theorem i180_26 : INS 180 26 = some (16, 3, 11, 3, .null, []) := rfl
set_option maxRecDepth 100000 in
theorem i180_29 : INS 180 29 = some (0, 2, 4, 0, .null, []) := rfl
set_option maxRecDepth 100000 in
theorem i180_31 : INS 180 31 = some (18, 1, 20, 0, .null, []) := rfl
set_option maxRecDepth 100000 in
theorem i180_32 : INS 180 32 = some (3, 1, 9, 0, .null, []) := rfl
set_option maxRecDepth 100000 in
theorem i180_33 : INS 180 33 = some (2, 1, 0, 0, .int 1, []) := rfl
set_option maxRecDepth 100000 in
theorem i180_34 : INS 180 34 = some (3, 1, 5, 0, .null, []) := rfl
set_option maxRecDepth 100000 in
theorem i180_35 : INS 180 35 = some (2, 1, 0, 0, .int 1, []) := rfl
set_option maxRecDepth 100000 in
theorem i180_36 : INS 180 36 = some (10, 3, 87, 1, .null, []) := rfl
set_option maxRecDepth 100000 in
theorem i180_39 : INS 180 39 = some (0, 1, 2, 0, .null, []) := rfl
set_option maxRecDepth 100000 in
theorem i180_40 : INS 180 40 = some (2, 1, 0, 0, .int 1, []) := rfl
set_option maxRecDepth 100000 in
theorem i180_41 : INS 180 41 = some (0, 1, 0, 2, .null, []) := rfl
set_option maxRecDepth 100000 in
theorem i180_42 : INS 180 42 = some (16, 3, 11, 5, .null, []) := rfl
set_option maxRecDepth 100000 in
theorem i180_45 : INS 180 45 = some (2, 1, 0, 0, .int 2, []) := rfl
set_option maxRecDepth 100000 in
theorem i180_46 : INS 180 46 = some (0, 2, 4, 0, .null, []) := rfl
set_option maxRecDepth 100000 in
theorem i180_48 : INS 180 48 = some (3, 1, 2, 0, .null, []) := rfl
set_option maxRecDepth 100000 in
theorem i180_49 : INS 180 49 = some (18, 1, 20, 0, .null, []) := rfl
set_option maxRecDepth 100000 in
theorem i180_50 : INS 180 50 = some (3, 1, 8, 0, .null, []) := rfl
set_option maxRecDepth 100000 in
theorem i180_51 : INS 180 51 = some (3, 1, 6, 0, .null, []) := rfl
set_option maxRecDepth 100000 in
theorem i180_52 : INS 180 52 = some (1, 1, 2, 0, .null, []) := rfl
set_option maxRecDepth 100000 in
theorem i180_53 : INS 180 53 = some (0, 1, 2, 0, .null, []) := rfl
set_option maxRecDepth 100000 in
theorem i180_54 : INS 180 54 = some (0, 1, 0, 2, .null, []) := rfl
set_option maxRecDepth 100000 in
theorem i180_55 : INS 180 55 = some (16, 3, 11, 5, .null, []) := rfl
set_option maxRecDepth 100000 in
theorem i180_58 : INS 180 58 = some (2, 1, 0, 0, .int 2, []) := rfl
set_option maxRecDepth 100000 in
theorem i180_59 : INS 180 59 = some (0, 2, 4, 0, .null, []) := rfl
set_option maxRecDepth 100000 in
theorem i180_61 : INS 180 61 = some (3, 1, 2, 0, .null, []) := rfl
set_option maxRecDepth 100000 in
theorem i180_62 : INS 180 62 = some (2, 1, 0, 0, .int 1, []) := rfl
set_option maxRecDepth 100000 in
theorem i180_63 : INS 180 63 = some (3, 1, 0, 0, .null, []) := rfl
set_option maxRecDepth 100000 in
theorem i180_64 : INS 180 64 = some (18, 1, 20, 0, .null, []) := rfl
set_option maxRecDepth 100000 in
theorem i180_65 : INS 180 65 = some (9, 3, 72, 1, .null, []) := rfl
set_option maxRecDepth 100000 in
theorem i180_68 : INS 180 68 = some (2, 1, 0, 0, .int 0, []) := rfl
set_option maxRecDepth 100000 in
theorem i180_69 : INS 180 69 = some (12, 3, 85, 0, .null, []) := rfl
set_option maxRecDepth 100000 in
theorem i180_72 : INS 180 72 = some (2, 1, 0, 0, .int 1, []) := rfl
set_option maxRecDepth 100000 in
theorem i180_73 : INS 180 73 = some (0, 1, 0, 2, .null, []) := rfl
set_option maxRecDepth 100000 in
theorem i180_74 : INS 180 74 = some (16, 3, 11, 5, .null, []) := rfl
set_option maxRecDepth 100000 in
theorem i180_77 : INS 180 77 = some (2, 1, 0, 0, .int 2, []) := rfl
set_option maxRecDepth 100000 in
theorem i180_78 : INS 180 78 = some (0, 2, 4, 0, .null, []) := rfl
set_option maxRecDepth 100000 in
theorem i180_80 : INS 180 80 = some (3, 1, 2, 0, .null, []) := rfl
set_option maxRecDepth 100000 in
theorem i180_81 : INS 180 81 = some (2, 1, 0, 0, .int 1, []) := rfl
set_option maxRecDepth 100000 in
theorem i180_82 : INS 180 82 = some (3, 1, 0, 0, .null, []) := rfl
set_option maxRecDepth 100000 in
theorem i180_83 : INS 180 83 = some (18, 1, 20, 0, .null, []) := rfl
set_option maxRecDepth 100000 in
theorem i180_84 : INS 180 84 = some (3, 1, 8, 0, .null, []) := rfl
set_option maxRecDepth 100000 in
theorem i180_85 : INS 180 85 = some (3, 1, 6, 0, .null, []) := rfl
set_option maxRecDepth 100000 in
theorem i180_86 : INS 180 86 = some (1, 1, 2, 0, .null, []) := rfl
set_option maxRecDepth 100000 in
theorem i180_87 : INS 180 87 = some (15, 3, 4, 0, .int 1, []) := rfl
set_option maxRecDepth 100000 in
theorem i180_90 : INS 180 90 = some (12, 3, 15, 0, .null, []) := rfl
set_option maxRecDepth 100000 in
theorem i180_93 : INS 180 93 = some (15, 3, 3, 0, .int 1, []) := rfl
set_option maxRecDepth 100000 in
theorem i180_96 : INS 180 96 = some (12, 3, 6, 0, .null, []) := rfl
set_option maxRecDepth 100000 in
theorem i180_99 : INS 180 99 = some (0, 1, 2, 0, .null, []) := rfl
set_option maxRecDepth 100000 in
theorem i180_100 : INS 180 100 = some (27, 1, 0, 0, .null, []) := rfl
set_option maxRecDepth 100000 in
theorem i181_0 : INS 181 0 = some (2, 1, 0, 0, .int 0, []) := rfl
set_option maxRecDepth 100000 in
theorem i181_1 : INS 181 1 = some (1, 1, 3, 0, .null, []) := rfl
set_option maxRecDepth 100000 in
theorem i181_2 : INS 181 2 = some (0, 1, 3, 0, .null, []) := rfl
set_option maxRecDepth 100000 in
theorem i181_3 : INS 181 3 = some (0, 1, 0, 2, .null, []) := rfl
set_option maxRecDepth 100000 in
theorem i181_4 : INS 181 4 = some (16, 3, 11, 1, .null, []) := rfl
set_option maxRecDepth 100000 in
theorem i181_7 : INS 181 7 = some (10, 3, 156, 3, .null, []) := rfl
set_option maxRecDepth 100000 in
theorem i181_10 : INS 181 10 = some (0, 1, 1, 0, .null, []) := rfl
set_option maxRecDepth 100000 in
theorem i181_11 : INS 181 11 = some (0, 1, 0, 2, .null, []) := rfl
set_option maxRecDepth 100000 in
theorem i181_12 : INS 181 12 = some (16, 3, 11, 3, .null, []) := rfl
set_option maxRecDepth 100000 in
theorem i181_15 : INS 181 15 = some (0, 1, 3, 0, .null, []) := rfl
set_option maxRecDepth 100000 in
theorem i181_16 : INS 181 16 = some (18, 1, 20, 0, .null, []) := rfl
set_option maxRecDepth 100000 in
theorem i181_17 : INS 181 17 = some (3, 1, 9, 0, .null, []) := rfl
set_option maxRecDepth 100000 in
theorem i181_18 : INS 181 18 = some (2, 1, 0, 0, .int 1, []) := rfl
set_option maxRecDepth 100000 in
theorem i181_19 : INS 181 19 = some (3, 1, 5, 0, .null, []) := rfl
set_option maxRecDepth 100000 in
theorem i181_20 : INS 181 20 = some (2, 1, 0, 0, .int 1, []) := rfl
set_option maxRecDepth 100000 in
theorem i181_21 : INS 181 21 = some (10, 3, 36, 1, .null, []) := rfl
set_option maxRecDepth 100000 in
theorem i181_24 : INS 181 24 = some (0, 1, 2, 0, .null, []) := rfl
set_option maxRecDepth 100000 in
theorem i181_25 : INS 181 25 = some (0, 1, 3, 0, .null, []) := rfl
set_option maxRecDepth 100000 in
theorem i181_26 : INS 181 26 = some (3, 1, 9, 0, .null, []) := rfl
set_option maxRecDepth 100000 in
theorem i181_27 : INS 181 27 = some (2, 1, 0, 0, .int 1, []) := rfl
set_option maxRecDepth 100000 in
theorem i181_28 : INS 181 28 = some (3, 1, 5, 0, .null, []) := rfl
set_option maxRecDepth 100000 in
theorem i181_29 : INS 181 29 = some (9, 3, 36, 1, .null, []) := rfl
set_option maxRecDepth 100000 in
theorem i181_32 : INS 181 32 = some (2, 1, 0, 0, .int 1, []) := rfl
set_option maxRecDepth 100000 in
theorem i181_33 : INS 181 33 = some (12, 3, 37, 0, .null, []) := rfl
set_option maxRecDepth 100000 in
theorem i181_36 : INS 181 36 = some (2, 1, 0, 0, .int 0, []) := rfl
set_option maxRecDepth 100000 in
theorem i181_37 : INS 181 37 = some (1, 2, 4, 0, .null, []) := rfl
set_option maxRecDepth 100000 in
theorem i181_39 : INS 181 39 = some (2, 1, 0, 0, .int 0, []) := rfl
set_option maxRecDepth 100000 in
theorem i181_40 : INS 181 40 = some (1, 2, 5, 0, .null, []) := rfl
set_option maxRecDepth 100000 in
theorem i181_42 : INS 181 42 = some (0, 2, 5, 0, .null, []) := rfl
set_option maxRecDepth 100000 in
theorem i181_44 : INS 181 44 = some (0, 1, 0, 2, .null, []) := rfl
set_option maxRecDepth 100000 in
theorem i181_45 : INS 181 45 = some (16, 3, 11, 1, .null, []) := rfl
set_option maxRecDepth 100000 in
theorem i181_48 : INS 181 48 = some (10, 3, 143, 3, .null, []) := rfl
set_option maxRecDepth 100000 in
theorem i181_51 : INS 181 51 = some (0, 2, 4, 0, .null, []) := rfl
set_option maxRecDepth 100000 in
theorem i181_53 : INS 181 53 = some (9, 3, 143, 0, .null, []) := rfl
set_option maxRecDepth 100000 in
theorem i181_56 : INS 181 56 = some (0, 1, 1, 0, .null, []) := rfl
set_option maxRecDepth 100000 in
theorem i181_57 : INS 181 57 = some (0, 1, 0, 2, .null, []) := rfl
set_option maxRecDepth 100000 in
theorem i181_58 : INS 181 58 = some (16, 3, 11, 3, .null, []) := rfl
set_option maxRecDepth 100000 in
theorem i181_61 : INS 181 61 = some (0, 2, 5, 0, .null, []) := rfl
set_option maxRecDepth 100000 in
theorem i181_63 : INS 181 63 = some (18, 1, 20, 0, .null, []) := rfl
set_option maxRecDepth 100000 in
theorem i181_64 : INS 181 64 = some (3, 1, 9, 0, .null, []) := rfl
set_option maxRecDepth 100000 in
theorem i181_65 : INS 181 65 = some (2, 1, 0, 0, .int 1, []) := rfl
set_option maxRecDepth 100000 in
theorem i181_66 : INS 181 66 = some (3, 1, 5, 0, .null, []) := rfl
set_option maxRecDepth 100000 in
theorem i181_67 : INS 181 67 = some (2, 1, 0, 0, .int 1, []) := rfl
set_option maxRecDepth 100000 in
theorem i181_68 : INS 181 68 = some (10, 3, 84, 1, .null, []) := rfl
set_option maxRecDepth 100000 in
theorem i181_71 : INS 181 71 = some (0, 1, 2, 0, .null, []) := rfl
set_option maxRecDepth 100000 in
theorem i181_72 : INS 181 72 = some (0, 2, 5, 0, .null, []) := rfl
set_option maxRecDepth 100000 in
theorem i181_74 : INS 181 74 = some (3, 1, 9, 0, .null, []) := rfl
set_option maxRecDepth 100000 in
theorem i181_75 : INS 181 75 = some (2, 1, 0, 0, .int 1, []) := rfl
set_option maxRecDepth 100000 in
theorem i181_76 : INS 181 76 = some (3, 1, 5, 0, .null, []) := rfl
set_option maxRecDepth 100000 in
theorem i181_77 : INS 181 77 = some (9, 3, 84, 1, .null, []) := rfl
set_option maxRecDepth 100000 in
theorem i181_80 : INS 181 80 = some (2, 1, 0, 0, .int 1, []) := rfl
set_option maxRecDepth 100000 in
theorem i181_81 : INS 181 81 = some (12, 3, 85, 0, .null, []) := rfl
set_option maxRecDepth 100000 in
theorem i181_84 : INS 181 84 = some (2, 1, 0, 0, .int 0, []) := rfl
set_option maxRecDepth 100000 in
theorem i181_85 : INS 181 85 = some (1, 2, 6, 0, .null, []) := rfl
set_option maxRecDepth 100000 in
theorem i181_87 : INS 181 87 = some (0, 2, 6, 0, .null, []) := rfl
set_option maxRecDepth 100000 in
theorem i181_89 : INS 181 89 = some (9, 3, 130, 0, .null, []) := rfl
set_option maxRecDepth 100000 in
theorem i181_92 : INS 181 92 = some (0, 1, 0, 2, .null, []) := rfl
set_option maxRecDepth 100000 in
theorem i181_93 : INS 181 93 = some (16, 3, 11, 5, .null, []) := rfl
set_option maxRecDepth 100000 in
theorem i181_96 : INS 181 96 = some (2, 1, 0, 0, .int 2, []) := rfl
set_option maxRecDepth 100000 in
theorem i181_97 : INS 181 97 = some (0, 2, 5, 0, .null, []) := rfl
set_option maxRecDepth 100000 in
theorem i181_99 : INS 181 99 = some (3, 1, 2, 0, .null, []) := rfl
set_option maxRecDepth 100000 in
theorem i181_100 : INS 181 100 = some (18, 1, 20, 0, .null, []) := rfl
set_option maxRecDepth 100000 in
theorem i181_101 : INS 181 101 = some (0, 1, 0, 2, .null, []) := rfl
set_option maxRecDepth 100000 in
theorem i181_102 : INS 181 102 = some (16, 3, 11, 3, .null, []) := rfl
set_option maxRecDepth 100000 in
theorem i181_105 : INS 181 105 = some (0, 1, 3, 0, .null, []) := rfl
set_option maxRecDepth 100000 in
theorem i181_106 : INS 181 106 = some (18, 1, 20, 0, .null, []) := rfl
set_option maxRecDepth 100000 in
theorem i181_107 : INS 181 107 = some (10, 3, 134, 0, .null, []) := rfl
set_option maxRecDepth 100000 in
theorem i181_110 : INS 181 110 = some (0, 1, 0, 2, .null, []) := rfl
set_option maxRecDepth 100000 in
theorem i181_111 : INS 181 111 = some (16, 3, 11, 5, .null, []) := rfl
set_option maxRecDepth 100000 in
theorem i181_114 : INS 181 114 = some (2, 1, 0, 0, .int 2, []) := rfl
set_option maxRecDepth 100000 in
theorem i181_115 : INS 181 115 = some (0, 2, 5, 0, .null, []) := rfl
set_option maxRecDepth 100000 in
theorem i181_117 : INS 181 117 = some (3, 1, 2, 0, .null, []) := rfl
set_option maxRecDepth 100000 in
theorem i181_118 : INS 181 118 = some (2, 1, 0, 0, .int 1, []) := rfl
set_option maxRecDepth 100000 in
theorem i181_119 : INS 181 119 = some (3, 1, 0, 0, .null, []) := rfl
set_option maxRecDepth 100000 in
theorem i181_120 : INS 181 120 = some (18, 1, 20, 0, .null, []) := rfl
set_option maxRecDepth 100000 in
theorem i181_121 : INS 181 121 = some (0, 1, 0, 2, .null, []) := rfl
set_option maxRecDepth 100000 in
theorem i181_122 : INS 181 122 = some (16, 3, 11, 3, .null, []) := rfl
set_option maxRecDepth 100000 in
theorem i181_125 : INS 181 125 = some (0, 1, 3, 0, .null, []) := rfl
set_option maxRecDepth 100000 in
theorem i181_126 : INS 181 126 = some (18, 1, 20, 0, .null, []) := rfl
set_option maxRecDepth 100000 in
theorem i181_127 : INS 181 127 = some (10, 3, 134, 0, .null, []) := rfl
set_option maxRecDepth 100000 in
theorem i181_130 : INS 181 130 = some (2, 1, 0, 0, .int 1, []) := rfl
set_option maxRecDepth 100000 in
theorem i181_131 : INS 181 131 = some (12, 3, 135, 0, .null, []) := rfl
set_option maxRecDepth 100000 in
theorem i181_134 : INS 181 134 = some (2, 1, 0, 0, .int 0, []) := rfl
set_option maxRecDepth 100000 in
theorem i181_135 : INS 181 135 = some (1, 2, 4, 0, .null, []) := rfl
set_option maxRecDepth 100000 in
theorem i181_137 : INS 181 137 = some (15, 3, 5, 0, .int 1, []) := rfl
set_option maxRecDepth 100000 in
theorem i181_140 : INS 181 140 = some (12, 3, 42, 0, .null, []) := rfl
set_option maxRecDepth 100000 in
theorem i181_143 : INS 181 143 = some (0, 2, 4, 0, .null, []) := rfl
set_option maxRecDepth 100000 in
theorem i181_145 : INS 181 145 = some (9, 3, 150, 0, .null, []) := rfl
set_option maxRecDepth 100000 in
theorem i181_148 : INS 181 148 = some (0, 1, 3, 0, .null, []) := rfl
set_option maxRecDepth 100000 in
theorem i181_149 : INS 181 149 = some (27, 1, 0, 0, .null, []) := rfl
set_option maxRecDepth 100000 in
theorem i181_150 : INS 181 150 = some (15, 3, 3, 0, .int 1, []) := rfl
set_option maxRecDepth 100000 in
theorem i181_153 : INS 181 153 = some (12, 3, 2, 0, .null, []) := rfl
set_option maxRecDepth 100000 in
theorem i181_156 : INS 181 156 = some (2, 1, 0, 0, .int (-1), []) := rfl
set_option maxRecDepth 100000 in
theorem i181_157 : INS 181 157 = some (27, 1, 0, 0, .null, []) := rfl
set_option maxRecDepth 100000 in
theorem i182_0 : INS 182 0 = some (0, 1, 1, 0, .null, []) := rfl
set_option maxRecDepth 100000 in
theorem i182_1 : INS 182 1 = some (24, 3, 126, 2, .null, []) := rfl
set_option maxRecDepth 100000 in
theorem i182_4 : INS 182 4 = some (9, 3, 36, 0, .null, []) := rfl
set_option maxRecDepth 100000 in
theorem i182_7 : INS 182 7 = some (0, 1, 0, 2, .null, []) := rfl
set_option maxRecDepth 100000 in
theorem i182_8 : INS 182 8 = some (0, 1, 1, 0, .null, []) := rfl
set_option maxRecDepth 100000 in
theorem i182_9 : INS 182 9 = some (24, 3, 129, 0, .null, []) := rfl
set_option maxRecDepth 100000 in
theorem i182_12 : INS 182 12 = some (2, 1, 0, 0, .int (-1), []) := rfl
set_option maxRecDepth 100000 in
theorem i182_13 : INS 182 13 = some (10, 3, 36, 0, .null, []) := rfl
set_option maxRecDepth 100000 in
theorem i182_16 : INS 182 16 = some (0, 1, 2, 0, .null, []) := rfl
set_option maxRecDepth 100000 in
theorem i182_17 : INS 182 17 = some (2, 1, 0, 0, .int 1, []) := rfl
set_option maxRecDepth 100000 in
theorem i182_18 : INS 182 18 = some (2, 2, 0, 0, .int 60, []) := rfl
set_option maxRecDepth 100000 in
theorem i182_20 : INS 182 20 = some (24, 3, 123, 2, .null, []) := rfl
set_option maxRecDepth 100000 in
theorem i182_23 : INS 182 23 = some (9, 3, 36, 0, .null, []) := rfl
set_option maxRecDepth 100000 in
theorem i182_26 : INS 182 26 = some (0, 1, 3, 0, .null, []) := rfl
set_option maxRecDepth 100000 in
theorem i182_27 : INS 182 27 = some (2, 1, 0, 0, .int 1, []) := rfl
set_option maxRecDepth 100000 in
theorem i182_28 : INS 182 28 = some (2, 2, 0, 0, .int 60, []) := rfl
set_option maxRecDepth 100000 in
theorem i182_30 : INS 182 30 = some (24, 3, 123, 2, .null, []) := rfl
set_option maxRecDepth 100000 in
theorem i182_33 : INS 182 33 = some (9, 3, 43, 1, .null, []) := rfl
set_option maxRecDepth 100000 in
theorem i182_36 : INS 182 36 = some (0, 1, 0, 2, .null, []) := rfl
set_option maxRecDepth 100000 in
theorem i182_37 : INS 182 37 = some (2, 2, 0, 0, .int (-6), []) := rfl
set_option maxRecDepth 100000 in
theorem i182_39 : INS 182 39 = some (24, 3, 124, 0, .null, []) := rfl
set_option maxRecDepth 100000 in
theorem i182_42 : INS 182 42 = some (27, 1, 0, 0, .null, []) := rfl
set_option maxRecDepth 100000 in
theorem i182_43 : INS 182 43 = some (0, 1, 0, 2, .null, []) := rfl
set_option maxRecDepth 100000 in
theorem i182_44 : INS 182 44 = some (0, 1, 1, 0, .null, []) := rfl
set_option maxRecDepth 100000 in
theorem i182_45 : INS 182 45 = some (24, 3, 180, 0, .null, []) := rfl
set_option maxRecDepth 100000 in
theorem i182_48 : INS 182 48 = some (1, 2, 4, 0, .null, []) := rfl
set_option maxRecDepth 100000 in
theorem i182_50 : INS 182 50 = some (2, 1, 0, 0, .int 0, []) := rfl
set_option maxRecDepth 100000 in
theorem i182_51 : INS 182 51 = some (1, 2, 5, 0, .null, []) := rfl
set_option maxRecDepth 100000 in
theorem i182_53 : INS 182 53 = some (2, 1, 0, 0, .int 0, []) := rfl
set_option maxRecDepth 100000 in
theorem i182_54 : INS 182 54 = some (1, 2, 6, 0, .null, []) := rfl
set_option maxRecDepth 100000 in
theorem i182_56 : INS 182 56 = some (0, 2, 6, 0, .null, []) := rfl
set_option maxRecDepth 100000 in
theorem i182_58 : INS 182 58 = some (0, 1, 0, 2, .null, []) := rfl
set_option maxRecDepth 100000 in
theorem i182_59 : INS 182 59 = some (16, 3, 11, 1, .null, []) := rfl
set_option maxRecDepth 100000 in
theorem i182_62 : INS 182 62 = some (10, 3, 96, 3, .null, []) := rfl
set_option maxRecDepth 100000 in
theorem i182_65 : INS 182 65 = some (0, 2, 5, 0, .null, []) := rfl
set_option maxRecDepth 100000 in
theorem i182_67 : INS 182 67 = some (0, 2, 4, 0, .null, []) := rfl
set_option maxRecDepth 100000 in
theorem i182_69 : INS 182 69 = some (0, 1, 0, 2, .null, []) := rfl
set_option maxRecDepth 100000 in
theorem i182_70 : INS 182 70 = some (16, 3, 11, 3, .null, []) := rfl
set_option maxRecDepth 100000 in
theorem i182_73 : INS 182 73 = some (0, 2, 6, 0, .null, []) := rfl
set_option maxRecDepth 100000 in
theorem i182_75 : INS 182 75 = some (18, 1, 20, 0, .null, []) := rfl
set_option maxRecDepth 100000 in
theorem i182_76 : INS 182 76 = some (3, 1, 9, 0, .null, []) := rfl
set_option maxRecDepth 100000 in
theorem i182_77 : INS 182 77 = some (2, 1, 0, 0, .int 1, []) := rfl
set_option maxRecDepth 100000 in
theorem i182_78 : INS 182 78 = some (3, 1, 5, 0, .null, []) := rfl
set_option maxRecDepth 100000 in
theorem i182_79 : INS 182 79 = some (3, 1, 0, 0, .null, []) := rfl
set_option maxRecDepth 100000 in
theorem i182_80 : INS 182 80 = some (1, 2, 5, 0, .null, []) := rfl
set_option maxRecDepth 100000 in
theorem i182_82 : INS 182 82 = some (0, 1, 0, 2, .null, []) := rfl
set_option maxRecDepth 100000 in
theorem i182_83 : INS 182 83 = some (16, 3, 11, 49, .null, []) := rfl
set_option maxRecDepth 100000 in
theorem i182_86 : INS 182 86 = some (0, 2, 6, 0, .null, []) := rfl
set_option maxRecDepth 100000 in
theorem i182_88 : INS 182 88 = some (2, 1, 0, 0, .int 0, []) := rfl
set_option maxRecDepth 100000 in
theorem i182_89 : INS 182 89 = some (19, 1, 20, 0, .null, []) := rfl
set_option maxRecDepth 100000 in
theorem i182_90 : INS 182 90 = some (15, 3, 6, 0, .int 1, []) := rfl
set_option maxRecDepth 100000 in
theorem i182_93 : INS 182 93 = some (12, 3, 56, 0, .null, []) := rfl
set_option maxRecDepth 100000 in
theorem i182_96 : INS 182 96 = some (2, 1, 0, 0, .int 0, []) := rfl
set_option maxRecDepth 100000 in
theorem i182_97 : INS 182 97 = some (1, 2, 6, 0, .null, []) := rfl
set_option maxRecDepth 100000 in
theorem i182_99 : INS 182 99 = some (0, 2, 6, 0, .null, []) := rfl
set_option maxRecDepth 100000 in
theorem i182_101 : INS 182 101 = some (2, 2, 0, 0, .int 20, []) := rfl
set_option maxRecDepth 100000 in
theorem i182_103 : INS 182 103 = some (10, 3, 128, 4, .null, []) := rfl
set_option maxRecDepth 100000 in
theorem i182_106 : INS 182 106 = some (0, 1, 0, 2, .null, []) := rfl
set_option maxRecDepth 100000 in
theorem i182_107 : INS 182 107 = some (16, 3, 11, 46, .null, []) := rfl
set_option maxRecDepth 100000 in
theorem i182_110 : INS 182 110 = some (0, 2, 6, 0, .null, []) := rfl
set_option maxRecDepth 100000 in
theorem i182_112 : INS 182 112 = some (2, 1, 0, 0, .long 0, []) := rfl
set_option maxRecDepth 100000 in
theorem i182_113 : INS 182 113 = some (19, 1, 21, 0, .null, []) := rfl
set_option maxRecDepth 100000 in
theorem i182_114 : INS 182 114 = some (0, 1, 0, 2, .null, []) := rfl
set_option maxRecDepth 100000 in
theorem i182_115 : INS 182 115 = some (16, 3, 11, 47, .null, []) := rfl
set_option maxRecDepth 100000 in
theorem i182_118 : INS 182 118 = some (0, 2, 6, 0, .null, []) := rfl
set_option maxRecDepth 100000 in
theorem i182_120 : INS 182 120 = some (2, 1, 0, 0, .long 1, []) := rfl
set_option maxRecDepth 100000 in
theorem i182_121 : INS 182 121 = some (19, 1, 21, 0, .null, []) := rfl
set_option maxRecDepth 100000 in
theorem i182_122 : INS 182 122 = some (15, 3, 6, 0, .int 1, []) := rfl
set_option maxRecDepth 100000 in
theorem i182_125 : INS 182 125 = some (12, 3, 99, 0, .null, []) := rfl
set_option maxRecDepth 100000 in
theorem i182_128 : INS 182 128 = some (0, 1, 0, 2, .null, []) := rfl
set_option maxRecDepth 100000 in
theorem i182_129 : INS 182 129 = some (0, 1, 1, 0, .null, []) := rfl
set_option maxRecDepth 100000 in
theorem i182_130 : INS 182 130 = some (0, 1, 2, 0, .null, []) := rfl
set_option maxRecDepth 100000 in
theorem i182_131 : INS 182 131 = some (6, 1, 1, 0, .null, []) := rfl
set_option maxRecDepth 100000 in
theorem i182_132 : INS 182 132 = some (0, 1, 3, 0, .null, []) := rfl
set_option maxRecDepth 100000 in
theorem i182_133 : INS 182 133 = some (6, 1, 1, 0, .null, []) := rfl
set_option maxRecDepth 100000 in
theorem i182_134 : INS 182 134 = some (24, 3, 179, 0, .null, []) := rfl
set_option maxRecDepth 100000 in
theorem i182_137 : INS 182 137 = some (2, 1, 0, 0, .int 0, []) := rfl
set_option maxRecDepth 100000 in
theorem i182_138 : INS 182 138 = some (1, 2, 6, 0, .null, []) := rfl
set_option maxRecDepth 100000 in
theorem i182_140 : INS 182 140 = some (2, 1, 0, 0, .int 0, []) := rfl
set_option maxRecDepth 100000 in
theorem i182_141 : INS 182 141 = some (1, 2, 7, 0, .null, []) := rfl
set_option maxRecDepth 100000 in
theorem i182_143 : INS 182 143 = some (0, 2, 5, 0, .null, []) := rfl
set_option maxRecDepth 100000 in
theorem i182_145 : INS 182 145 = some (9, 3, 336, 5, .null, []) := rfl
set_option maxRecDepth 100000 in
theorem i182_148 : INS 182 148 = some (0, 1, 0, 2, .null, []) := rfl
set_option maxRecDepth 100000 in
theorem i182_149 : INS 182 149 = some (0, 2, 4, 0, .null, []) := rfl
set_option maxRecDepth 100000 in
theorem i182_151 : INS 182 151 = some (0, 2, 6, 0, .null, []) := rfl
set_option maxRecDepth 100000 in
theorem i182_153 : INS 182 153 = some (24, 3, 181, 0, .null, []) := rfl
set_option maxRecDepth 100000 in
theorem i182_156 : INS 182 156 = some (1, 2, 8, 0, .null, []) := rfl
set_option maxRecDepth 100000 in
theorem i182_158 : INS 182 158 = some (0, 2, 8, 0, .null, []) := rfl
set_option maxRecDepth 100000 in
theorem i182_160 : INS 182 160 = some (2, 1, 0, 0, .int (-1), []) := rfl
set_option maxRecDepth 100000 in
theorem i182_161 : INS 182 161 = some (10, 3, 171, 1, .null, []) := rfl
set_option maxRecDepth 100000 in
theorem i182_164 : INS 182 164 = some (0, 1, 0, 2, .null, []) := rfl
set_option maxRecDepth 100000 in
theorem i182_165 : INS 182 165 = some (2, 2, 0, 0, .int (-6), []) := rfl
set_option maxRecDepth 100000 in
theorem i182_167 : INS 182 167 = some (24, 3, 124, 0, .null, []) := rfl
set_option maxRecDepth 100000 in
theorem i182_170 : INS 182 170 = some (27, 1, 0, 0, .null, []) := rfl
set_option maxRecDepth 100000 in
theorem i182_171 : INS 182 171 = some (0, 2, 6, 0, .null, []) := rfl
set_option maxRecDepth 100000 in
theorem i182_173 : INS 182 173 = some (2, 1, 0, 0, .int 1, []) := rfl
set_option maxRecDepth 100000 in
theorem i182_174 : INS 182 174 = some (0, 2, 8, 0, .null, []) := rfl
set_option maxRecDepth 100000 in
theorem i182_176 : INS 182 176 = some (3, 1, 8, 0, .null, []) := rfl
set_option maxRecDepth 100000 in
theorem i182_177 : INS 182 177 = some (3, 1, 6, 0, .null, []) := rfl
set_option maxRecDepth 100000 in
theorem i182_178 : INS 182 178 = some (1, 2, 6, 0, .null, []) := rfl
set_option maxRecDepth 100000 in
theorem i182_180 : INS 182 180 = some (15, 3, 5, 0, .int (-1), []) := rfl
set_option maxRecDepth 100000 in
theorem i182_183 : INS 182 183 = some (0, 1, 0, 2, .null, []) := rfl
set_option maxRecDepth 100000 in
theorem i182_184 : INS 182 184 = some (16, 3, 11, 46, .null, []) := rfl
set_option maxRecDepth 100000 in
theorem i182_187 : INS 182 187 = some (0, 1, 0, 2, .null, []) := rfl
set_option maxRecDepth 100000 in
theorem i182_188 : INS 182 188 = some (16, 3, 11, 3, .null, []) := rfl
set_option maxRecDepth 100000 in
theorem i182_191 : INS 182 191 = some (0, 2, 8, 0, .null, []) := rfl
set_option maxRecDepth 100000 in
theorem i182_193 : INS 182 193 = some (18, 1, 20, 0, .null, []) := rfl
set_option maxRecDepth 100000 in
theorem i182_194 : INS 182 194 = some (18, 1, 21, 0, .null, []) := rfl
set_option maxRecDepth 100000 in
theorem i182_195 : INS 182 195 = some (1, 2, 9, 1, .null, []) := rfl
set_option maxRecDepth 100000 in
theorem i182_197 : INS 182 197 = some (0, 1, 0, 2, .null, []) := rfl
set_option maxRecDepth 100000 in
theorem i182_198 : INS 182 198 = some (16, 3, 11, 47, .null, []) := rfl
set_option maxRecDepth 100000 in
theorem i182_201 : INS 182 201 = some (0, 1, 0, 2, .null, []) := rfl
set_option maxRecDepth 100000 in
theorem i182_202 : INS 182 202 = some (16, 3, 11, 3, .null, []) := rfl
set_option maxRecDepth 100000 in
theorem i182_205 : INS 182 205 = some (0, 2, 8, 0, .null, []) := rfl
set_option maxRecDepth 100000 in
theorem i182_207 : INS 182 207 = some (18, 1, 20, 0, .null, []) := rfl
set_option maxRecDepth 100000 in
theorem i182_208 : INS 182 208 = some (18, 1, 21, 0, .null, []) := rfl
set_option maxRecDepth 100000 in
theorem i182_209 : INS 182 209 = some (0, 1, 0, 2, .null, []) := rfl
set_option maxRecDepth 100000 in
theorem i182_210 : INS 182 210 = some (16, 3, 11, 2, .null, []) := rfl
set_option maxRecDepth 100000 in
theorem i182_213 : INS 182 213 = some (0, 2, 8, 0, .null, []) := rfl
set_option maxRecDepth 100000 in
theorem i182_215 : INS 182 215 = some (18, 1, 20, 0, .null, []) := rfl
set_option maxRecDepth 100000 in
theorem i182_216 : INS 182 216 = some (6, 1, 1, 0, .null, []) := rfl
set_option maxRecDepth 100000 in
theorem i182_217 : INS 182 217 = some (4, 1, 2, 0, .null, []) := rfl
set_option maxRecDepth 100000 in
theorem i182_218 : INS 182 218 = some (1, 2, 11, 1, .null, []) := rfl
set_option maxRecDepth 100000 in
theorem i182_220 : INS 182 220 = some (0, 1, 0, 2, .null, []) := rfl
set_option maxRecDepth 100000 in
theorem i182_221 : INS 182 221 = some (16, 3, 11, 49, .null, []) := rfl
set_option maxRecDepth 100000 in
theorem i182_224 : INS 182 224 = some (0, 2, 8, 0, .null, []) := rfl
set_option maxRecDepth 100000 in
theorem i182_226 : INS 182 226 = some (0, 2, 9, 1, .null, []) := rfl
set_option maxRecDepth 100000 in
theorem i182_228 : INS 182 228 = some (0, 1, 0, 2, .null, []) := rfl
set_option maxRecDepth 100000 in
theorem i182_229 : INS 182 229 = some (16, 3, 11, 4, .null, []) := rfl
set_option maxRecDepth 100000 in
theorem i182_232 : INS 182 232 = some (0, 2, 8, 0, .null, []) := rfl
set_option maxRecDepth 100000 in
theorem i182_234 : INS 182 234 = some (18, 1, 20, 0, .null, []) := rfl
set_option maxRecDepth 100000 in
theorem i182_235 : INS 182 235 = some (6, 1, 1, 0, .null, []) := rfl
set_option maxRecDepth 100000 in
theorem i182_236 : INS 182 236 = some (4, 1, 2, 0, .null, []) := rfl
set_option maxRecDepth 100000 in
theorem i182_237 : INS 182 237 = some (0, 2, 11, 1, .null, []) := rfl
set_option maxRecDepth 100000 in
theorem i182_239 : INS 182 239 = some (4, 1, 0, 0, .null, []) := rfl
set_option maxRecDepth 100000 in
theorem i182_240 : INS 182 240 = some (2, 1, 0, 0, .long 1, []) := rfl
set_option maxRecDepth 100000 in
theorem i182_241 : INS 182 241 = some (4, 1, 1, 0, .null, []) := rfl
set_option maxRecDepth 100000 in
theorem i182_242 : INS 182 242 = some (0, 2, 11, 1, .null, []) := rfl
set_option maxRecDepth 100000 in
theorem i182_244 : INS 182 244 = some (4, 1, 3, 0, .null, []) := rfl
set_option maxRecDepth 100000 in
theorem i182_245 : INS 182 245 = some (6, 1, 2, 0, .null, []) := rfl
set_option maxRecDepth 100000 in
theorem i182_246 : INS 182 246 = some (19, 1, 20, 0, .null, []) := rfl
set_option maxRecDepth 100000 in
theorem i182_247 : INS 182 247 = some (0, 2, 7, 0, .null, []) := rfl
set_option maxRecDepth 100000 in
theorem i182_249 : INS 182 249 = some (0, 1, 0, 2, .null, []) := rfl
set_option maxRecDepth 100000 in
theorem i182_250 : INS 182 250 = some (16, 3, 11, 49, .null, []) := rfl
set_option maxRecDepth 100000 in
theorem i182_253 : INS 182 253 = some (0, 2, 8, 0, .null, []) := rfl
set_option maxRecDepth 100000 in
theorem i182_255 : INS 182 255 = some (18, 1, 20, 0, .null, []) := rfl
set_option maxRecDepth 100000 in
theorem i182_256 : INS 182 256 = some (3, 1, 0, 0, .null, []) := rfl
set_option maxRecDepth 100000 in
theorem i182_257 : INS 182 257 = some (1, 2, 7, 0, .null, []) := rfl
set_option maxRecDepth 100000 in
theorem i182_259 : INS 182 259 = some (0, 1, 0, 2, .null, []) := rfl
set_option maxRecDepth 100000 in
theorem i182_260 : INS 182 260 = some (0, 1, 0, 2, .null, []) := rfl
set_option maxRecDepth 100000 in
theorem i182_261 : INS 182 261 = some (16, 3, 11, 5, .null, []) := rfl
set_option maxRecDepth 100000 in
theorem i182_264 : INS 182 264 = some (2, 1, 0, 0, .int 2, []) := rfl
set_option maxRecDepth 100000 in
theorem i182_265 : INS 182 265 = some (0, 2, 8, 0, .null, []) := rfl
set_option maxRecDepth 100000 in
theorem i182_267 : INS 182 267 = some (3, 1, 2, 0, .null, []) := rfl
set_option maxRecDepth 100000 in
theorem i182_268 : INS 182 268 = some (18, 1, 20, 0, .null, []) := rfl
set_option maxRecDepth 100000 in
theorem i182_269 : INS 182 269 = some (0, 2, 9, 1, .null, []) := rfl
set_option maxRecDepth 100000 in
theorem i182_271 : INS 182 271 = some (0, 1, 0, 2, .null, []) := rfl
set_option maxRecDepth 100000 in
theorem i182_272 : INS 182 272 = some (16, 3, 11, 6, .null, []) := rfl
set_option maxRecDepth 100000 in
theorem i182_275 : INS 182 275 = some (2, 1, 0, 0, .int 2, []) := rfl
set_option maxRecDepth 100000 in
theorem i182_276 : INS 182 276 = some (0, 2, 8, 0, .null, []) := rfl
set_option maxRecDepth 100000 in
theorem i182_278 : INS 182 278 = some (3, 1, 2, 0, .null, []) := rfl
set_option maxRecDepth 100000 in
theorem i182_279 : INS 182 279 = some (18, 1, 20, 0, .null, []) := rfl
set_option maxRecDepth 100000 in
theorem i182_280 : INS 182 280 = some (6, 1, 1, 0, .null, []) := rfl
set_option maxRecDepth 100000 in
theorem i182_281 : INS 182 281 = some (4, 1, 2, 0, .null, []) := rfl
set_option maxRecDepth 100000 in
theorem i182_282 : INS 182 282 = some (0, 2, 11, 1, .null, []) := rfl
set_option maxRecDepth 100000 in
theorem i182_284 : INS 182 284 = some (24, 3, 179, 0, .null, []) := rfl
set_option maxRecDepth 100000 in
theorem i182_287 : INS 182 287 = some (0, 1, 0, 2, .null, []) := rfl
set_option maxRecDepth 100000 in
theorem i182_288 : INS 182 288 = some (16, 3, 11, 5, .null, []) := rfl
set_option maxRecDepth 100000 in
theorem i182_291 : INS 182 291 = some (2, 1, 0, 0, .int 2, []) := rfl
set_option maxRecDepth 100000 in
theorem i182_292 : INS 182 292 = some (0, 2, 8, 0, .null, []) := rfl
set_option maxRecDepth 100000 in
theorem i182_294 : INS 182 294 = some (3, 1, 2, 0, .null, []) := rfl
set_option maxRecDepth 100000 in
theorem i182_295 : INS 182 295 = some (2, 1, 0, 0, .int 1, []) := rfl
set_option maxRecDepth 100000 in
theorem i182_296 : INS 182 296 = some (3, 1, 0, 0, .null, []) := rfl
set_option maxRecDepth 100000 in
theorem i182_297 : INS 182 297 = some (18, 1, 20, 0, .null, []) := rfl
set_option maxRecDepth 100000 in
theorem i182_298 : INS 182 298 = some (9, 3, 333, 0, .null, []) := rfl
set_option maxRecDepth 100000 in
theorem i182_301 : INS 182 301 = some (0, 1, 0, 2, .null, []) := rfl
set_option maxRecDepth 100000 in
theorem i182_302 : INS 182 302 = some (0, 1, 0, 2, .null, []) := rfl
set_option maxRecDepth 100000 in
theorem i182_303 : INS 182 303 = some (16, 3, 11, 5, .null, []) := rfl
set_option maxRecDepth 100000 in
theorem i182_306 : INS 182 306 = some (2, 1, 0, 0, .int 2, []) := rfl
set_option maxRecDepth 100000 in
theorem i182_307 : INS 182 307 = some (0, 2, 8, 0, .null, []) := rfl
set_option maxRecDepth 100000 in
theorem i182_309 : INS 182 309 = some (3, 1, 2, 0, .null, []) := rfl
set_option maxRecDepth 100000 in
theorem i182_310 : INS 182 310 = some (2, 1, 0, 0, .int 1, []) := rfl
set_option maxRecDepth 100000 in
theorem i182_311 : INS 182 311 = some (3, 1, 0, 0, .null, []) := rfl
set_option maxRecDepth 100000 in
theorem i182_312 : INS 182 312 = some (18, 1, 20, 0, .null, []) := rfl
set_option maxRecDepth 100000 in
theorem i182_313 : INS 182 313 = some (0, 2, 9, 1, .null, []) := rfl
set_option maxRecDepth 100000 in
theorem i182_315 : INS 182 315 = some (0, 1, 0, 2, .null, []) := rfl
set_option maxRecDepth 100000 in
theorem i182_316 : INS 182 316 = some (16, 3, 11, 6, .null, []) := rfl
set_option maxRecDepth 100000 in
theorem i182_319 : INS 182 319 = some (2, 1, 0, 0, .int 2, []) := rfl
set_option maxRecDepth 100000 in
theorem i182_320 : INS 182 320 = some (0, 2, 8, 0, .null, []) := rfl
set_option maxRecDepth 100000 in
theorem i182_322 : INS 182 322 = some (3, 1, 2, 0, .null, []) := rfl
set_option maxRecDepth 100000 in
theorem i182_323 : INS 182 323 = some (2, 1, 0, 0, .int 1, []) := rfl
set_option maxRecDepth 100000 in
theorem i182_324 : INS 182 324 = some (3, 1, 0, 0, .null, []) := rfl
set_option maxRecDepth 100000 in
theorem i182_325 : INS 182 325 = some (18, 1, 20, 0, .null, []) := rfl
set_option maxRecDepth 100000 in
theorem i182_326 : INS 182 326 = some (6, 1, 1, 0, .null, []) := rfl
set_option maxRecDepth 100000 in
theorem i182_327 : INS 182 327 = some (4, 1, 2, 0, .null, []) := rfl
set_option maxRecDepth 100000 in
theorem i182_328 : INS 182 328 = some (0, 2, 11, 1, .null, []) := rfl
set_option maxRecDepth 100000 in
theorem i182_330 : INS 182 330 = some (24, 3, 179, 0, .null, []) := rfl
set_option maxRecDepth 100000 in
theorem i182_333 : INS 182 333 = some (12, 3, 143, 0, .null, []) := rfl
set_option maxRecDepth 100000 in
theorem i182_336 : INS 182 336 = some (2, 1, 0, 0, .int 0, []) := rfl
set_option maxRecDepth 100000 in
theorem i182_337 : INS 182 337 = some (1, 2, 8, 0, .null, []) := rfl
set_option maxRecDepth 100000 in
theorem i182_339 : INS 182 339 = some (0, 2, 8, 0, .null, []) := rfl
set_option maxRecDepth 100000 in
theorem i182_341 : INS 182 341 = some (2, 2, 0, 0, .int 20, []) := rfl
set_option maxRecDepth 100000 in
theorem i182_343 : INS 182 343 = some (10, 3, 380, 4, .null, []) := rfl
set_option maxRecDepth 100000 in
theorem i182_346 : INS 182 346 = some (0, 1, 0, 2, .null, []) := rfl
set_option maxRecDepth 100000 in
theorem i182_347 : INS 182 347 = some (16, 3, 11, 44, .null, []) := rfl
set_option maxRecDepth 100000 in
theorem i182_350 : INS 182 350 = some (0, 2, 8, 0, .null, []) := rfl
set_option maxRecDepth 100000 in
theorem i182_352 : INS 182 352 = some (0, 1, 0, 2, .null, []) := rfl
set_option maxRecDepth 100000 in
theorem i182_353 : INS 182 353 = some (16, 3, 11, 46, .null, []) := rfl
set_option maxRecDepth 100000 in
theorem i182_356 : INS 182 356 = some (0, 2, 8, 0, .null, []) := rfl
set_option maxRecDepth 100000 in
theorem i182_358 : INS 182 358 = some (18, 1, 21, 0, .null, []) := rfl
set_option maxRecDepth 100000 in
theorem i182_359 : INS 182 359 = some (19, 1, 21, 0, .null, []) := rfl
set_option maxRecDepth 100000 in
theorem i182_360 : INS 182 360 = some (0, 1, 0, 2, .null, []) := rfl
set_option maxRecDepth 100000 in
theorem i182_361 : INS 182 361 = some (16, 3, 11, 45, .null, []) := rfl
set_option maxRecDepth 100000 in
theorem i182_364 : INS 182 364 = some (0, 2, 8, 0, .null, []) := rfl
set_option maxRecDepth 100000 in
theorem i182_366 : INS 182 366 = some (0, 1, 0, 2, .null, []) := rfl
set_option maxRecDepth 100000 in
theorem i182_367 : INS 182 367 = some (16, 3, 11, 47, .null, []) := rfl
set_option maxRecDepth 100000 in
theorem i182_370 : INS 182 370 = some (0, 2, 8, 0, .null, []) := rfl
set_option maxRecDepth 100000 in
theorem i182_372 : INS 182 372 = some (18, 1, 21, 0, .null, []) := rfl
set_option maxRecDepth 100000 in
theorem i182_373 : INS 182 373 = some (19, 1, 21, 0, .null, []) := rfl
set_option maxRecDepth 100000 in
theorem i182_374 : INS 182 374 = some (15, 3, 8, 0, .int 1, []) := rfl
set_option maxRecDepth 100000 in
theorem i182_377 : INS 182 377 = some (12, 3, 339, 0, .null, []) := rfl
set_option maxRecDepth 100000 in
theorem i182_380 : INS 182 380 = some (2, 1, 0, 0, .int 0, []) := rfl
set_option maxRecDepth 100000 in
theorem i182_381 : INS 182 381 = some (1, 2, 8, 0, .null, []) := rfl
set_option maxRecDepth 100000 in
theorem i182_383 : INS 182 383 = some (0, 2, 8, 0, .null, []) := rfl
set_option maxRecDepth 100000 in
theorem i182_385 : INS 182 385 = some (2, 2, 0, 0, .int 8, []) := rfl
set_option maxRecDepth 100000 in
theorem i182_387 : INS 182 387 = some (10, 3, 423, 3, .null, []) := rfl
set_option maxRecDepth 100000 in
theorem i182_390 : INS 182 390 = some (0, 1, 0, 2, .null, []) := rfl
set_option maxRecDepth 100000 in
theorem i182_391 : INS 182 391 = some (16, 3, 11, 48, .null, []) := rfl
set_option maxRecDepth 100000 in
theorem i182_394 : INS 182 394 = some (0, 2, 8, 0, .null, []) := rfl
set_option maxRecDepth 100000 in
theorem i182_396 : INS 182 396 = some (0, 2, 8, 0, .null, []) := rfl
set_option maxRecDepth 100000 in
theorem i182_398 : INS 182 398 = some (0, 1, 0, 2, .null, []) := rfl
set_option maxRecDepth 100000 in
theorem i182_399 : INS 182 399 = some (16, 3, 11, 1, .null, []) := rfl
set_option maxRecDepth 100000 in
theorem i182_402 : INS 182 402 = some (10, 3, 415, 3, .null, []) := rfl
set_option maxRecDepth 100000 in
theorem i182_405 : INS 182 405 = some (0, 1, 0, 2, .null, []) := rfl
set_option maxRecDepth 100000 in
theorem i182_406 : INS 182 406 = some (16, 3, 11, 49, .null, []) := rfl
set_option maxRecDepth 100000 in
theorem i182_409 : INS 182 409 = some (0, 2, 8, 0, .null, []) := rfl
set_option maxRecDepth 100000 in
theorem i182_411 : INS 182 411 = some (18, 1, 20, 0, .null, []) := rfl
set_option maxRecDepth 100000 in
theorem i182_412 : INS 182 412 = some (12, 3, 416, 0, .null, []) := rfl
set_option maxRecDepth 100000 in
theorem i182_415 : INS 182 415 = some (2, 1, 0, 0, .int 0, []) := rfl
set_option maxRecDepth 100000 in
theorem i182_416 : INS 182 416 = some (19, 1, 20, 0, .null, []) := rfl
set_option maxRecDepth 100000 in
theorem i182_417 : INS 182 417 = some (15, 3, 8, 0, .int 1, []) := rfl
set_option maxRecDepth 100000 in
theorem i182_420 : INS 182 420 = some (12, 3, 383, 0, .null, []) := rfl
set_option maxRecDepth 100000 in
theorem i182_423 : INS 182 423 = some (0, 2, 7, 0, .null, []) := rfl
set_option maxRecDepth 100000 in
theorem i182_425 : INS 182 425 = some (27, 1, 0, 0, .null, []) := rfl
set_option maxRecDepth 100000 in
theorem i183_0 : INS 183 0 = some (0, 1, 1, 0, .null, []) := rfl
set_option maxRecDepth 100000 in
theorem i183_1 : INS 183 1 = some (2, 1, 0, 0, .int 0, []) := rfl
set_option maxRecDepth 100000 in
theorem i183_2 : INS 183 2 = some (0, 1, 0, 2, .null, []) := rfl
set_option maxRecDepth 100000 in
theorem i183_3 : INS 183 3 = some (16, 3, 11, 1, .null, []) := rfl
set_option maxRecDepth 100000 in
theorem i183_6 : INS 183 6 = some (2, 1, 0, 0, .int 1, []) := rfl
set_option maxRecDepth 100000 in
theorem i183_7 : INS 183 7 = some (3, 1, 1, 0, .null, []) := rfl
set_option maxRecDepth 100000 in
theorem i183_8 : INS 183 8 = some (24, 3, 123, 2, .null, []) := rfl
set_option maxRecDepth 100000 in
theorem i183_11 : INS 183 11 = some (9, 3, 23, 0, .null, []) := rfl
set_option maxRecDepth 100000 in
theorem i183_14 : INS 183 14 = some (0, 1, 0, 2, .null, []) := rfl
set_option maxRecDepth 100000 in
theorem i183_15 : INS 183 15 = some (16, 3, 11, 48, .null, []) := rfl
set_option maxRecDepth 100000 in
theorem i183_18 : INS 183 18 = some (0, 1, 1, 0, .null, []) := rfl
set_option maxRecDepth 100000 in
theorem i183_19 : INS 183 19 = some (18, 1, 20, 0, .null, []) := rfl
set_option maxRecDepth 100000 in
theorem i183_20 : INS 183 20 = some (12, 3, 24, 0, .null, []) := rfl
set_option maxRecDepth 100000 in
theorem i183_23 : INS 183 23 = some (2, 1, 0, 0, .int 0, []) := rfl
set_option maxRecDepth 100000 in
theorem i183_24 : INS 183 24 = some (27, 1, 0, 0, .null, []) := rfl
set_option maxRecDepth 100000 in
theorem i184_0 : INS 184 0 = some (0, 1, 1, 0, .null, []) := rfl
set_option maxRecDepth 100000 in
theorem i184_1 : INS 184 1 = some (24, 3, 126, 2, .null, []) := rfl
set_option maxRecDepth 100000 in
theorem i184_4 : INS 184 4 = some (9, 3, 19, 1, .null, []) := rfl
set_option maxRecDepth 100000 in
theorem i184_7 : INS 184 7 = some (0, 1, 2, 0, .null, []) := rfl
set_option maxRecDepth 100000 in
theorem i184_8 : INS 184 8 = some (9, 3, 15, 0, .null, []) := rfl
set_option maxRecDepth 100000 in
theorem i184_11 : INS 184 11 = some (2, 1, 0, 0, .long 1, []) := rfl
set_option maxRecDepth 100000 in
theorem i184_12 : INS 184 12 = some (12, 3, 38, 0, .null, []) := rfl
set_option maxRecDepth 100000 in
theorem i184_15 : INS 184 15 = some (2, 1, 0, 0, .long 0, []) := rfl
set_option maxRecDepth 100000 in
theorem i184_16 : INS 184 16 = some (12, 3, 38, 0, .null, []) := rfl
set_option maxRecDepth 100000 in
theorem i184_19 : INS 184 19 = some (0, 1, 2, 0, .null, []) := rfl
set_option maxRecDepth 100000 in
theorem i184_20 : INS 184 20 = some (9, 3, 32, 0, .null, []) := rfl
set_option maxRecDepth 100000 in
theorem i184_23 : INS 184 23 = some (0, 1, 0, 2, .null, []) := rfl
set_option maxRecDepth 100000 in
theorem i184_24 : INS 184 24 = some (16, 3, 11, 45, .null, []) := rfl
set_option maxRecDepth 100000 in
theorem i184_27 : INS 184 27 = some (0, 1, 1, 0, .null, []) := rfl
set_option maxRecDepth 100000 in
theorem i184_28 : INS 184 28 = some (18, 1, 21, 0, .null, []) := rfl
set_option maxRecDepth 100000 in
theorem i184_29 : INS 184 29 = some (12, 3, 38, 0, .null, []) := rfl
set_option maxRecDepth 100000 in
theorem i184_32 : INS 184 32 = some (0, 1, 0, 2, .null, []) := rfl
set_option maxRecDepth 100000 in
theorem i184_33 : INS 184 33 = some (16, 3, 11, 44, .null, []) := rfl
set_option maxRecDepth 100000 in
theorem i184_36 : INS 184 36 = some (0, 1, 1, 0, .null, []) := rfl
set_option maxRecDepth 100000 in
theorem i184_37 : INS 184 37 = some (18, 1, 21, 0, .null, []) := rfl
set_option maxRecDepth 100000 in
theorem i184_38 : INS 184 38 = some (27, 1, 1, 0, .null, []) := rfl
set_option maxRecDepth 100000 in
theorem i185_0 : INS 185 0 = some (2, 1, 0, 0, .int 0, []) := rfl
set_option maxRecDepth 100000 in
theorem i185_1 : INS 185 1 = some (1, 1, 2, 0, .null, []) := rfl
set_option maxRecDepth 100000 in
theorem i185_2 : INS 185 2 = some (0, 1, 2, 0, .null, []) := rfl
set_option maxRecDepth 100000 in
theorem i185_3 : INS 185 3 = some (2, 3, 0, 0, .int 144, []) := rfl
set_option maxRecDepth 100000 in
theorem i185_6 : INS 185 6 = some (10, 3, 24, 3, .null, []) := rfl
set_option maxRecDepth 100000 in
theorem i185_9 : INS 185 9 = some (0, 1, 0, 2, .null, []) := rfl
set_option maxRecDepth 100000 in
theorem i185_10 : INS 185 10 = some (16, 3, 11, 50, .null, []) := rfl
set_option maxRecDepth 100000 in
theorem i185_13 : INS 185 13 = some (0, 1, 2, 0, .null, []) := rfl
set_option maxRecDepth 100000 in
theorem i185_14 : INS 185 14 = some (2, 3, 0, 0, .int 1000, []) := rfl
set_option maxRecDepth 100000 in
theorem i185_17 : INS 185 17 = some (19, 1, 20, 0, .null, []) := rfl
set_option maxRecDepth 100000 in
theorem i185_18 : INS 185 18 = some (15, 3, 2, 0, .int 1, []) := rfl
set_option maxRecDepth 100000 in
theorem i185_21 : INS 185 21 = some (12, 3, 2, 0, .null, []) := rfl
set_option maxRecDepth 100000 in
theorem i185_24 : INS 185 24 = some (2, 1, 0, 0, .int 0, []) := rfl
set_option maxRecDepth 100000 in
theorem i185_25 : INS 185 25 = some (1, 1, 2, 0, .null, []) := rfl
set_option maxRecDepth 100000 in
theorem i185_26 : INS 185 26 = some (0, 1, 2, 0, .null, []) := rfl
set_option maxRecDepth 100000 in
theorem i185_27 : INS 185 27 = some (2, 1, 0, 0, .int 4, []) := rfl
set_option maxRecDepth 100000 in
theorem i185_28 : INS 185 28 = some (10, 3, 73, 3, .null, []) := rfl
set_option maxRecDepth 100000 in
theorem i185_31 : INS 185 31 = some (0, 1, 1, 0, .null, []) := rfl
set_option maxRecDepth 100000 in
theorem i185_32 : INS 185 32 = some (0, 1, 2, 0, .null, []) := rfl
set_option maxRecDepth 100000 in
theorem i185_33 : INS 185 33 = some (24, 3, 127, 2, .null, []) := rfl
set_option maxRecDepth 100000 in
theorem i185_36 : INS 185 36 = some (1, 1, 3, 0, .null, []) := rfl
set_option maxRecDepth 100000 in
theorem i185_37 : INS 185 37 = some (0, 1, 3, 0, .null, []) := rfl
set_option maxRecDepth 100000 in
theorem i185_38 : INS 185 38 = some (2, 1, 0, 0, .int (-1), []) := rfl
set_option maxRecDepth 100000 in
theorem i185_39 : INS 185 39 = some (10, 3, 67, 0, .null, []) := rfl
set_option maxRecDepth 100000 in
theorem i185_42 : INS 185 42 = some (0, 1, 0, 2, .null, []) := rfl
set_option maxRecDepth 100000 in
theorem i185_43 : INS 185 43 = some (16, 3, 11, 8, .null, []) := rfl
set_option maxRecDepth 100000 in
theorem i185_46 : INS 185 46 = some (0, 1, 3, 0, .null, []) := rfl
set_option maxRecDepth 100000 in
theorem i185_47 : INS 185 47 = some (18, 1, 20, 0, .null, []) := rfl
set_option maxRecDepth 100000 in
theorem i185_48 : INS 185 48 = some (9, 3, 67, 1, .null, []) := rfl
set_option maxRecDepth 100000 in
theorem i185_51 : INS 185 51 = some (0, 1, 0, 2, .null, []) := rfl
set_option maxRecDepth 100000 in
theorem i185_52 : INS 185 52 = some (0, 1, 1, 0, .null, []) := rfl
set_option maxRecDepth 100000 in
theorem i185_53 : INS 185 53 = some (0, 1, 2, 0, .null, []) := rfl
set_option maxRecDepth 100000 in
theorem i185_54 : INS 185 54 = some (24, 3, 128, 0, .null, []) := rfl
set_option maxRecDepth 100000 in
theorem i185_57 : INS 185 57 = some (9, 3, 67, 1, .null, []) := rfl
set_option maxRecDepth 100000 in
theorem i185_60 : INS 185 60 = some (0, 1, 0, 2, .null, []) := rfl
set_option maxRecDepth 100000 in
theorem i185_61 : INS 185 61 = some (16, 3, 11, 50, .null, []) := rfl
set_option maxRecDepth 100000 in
theorem i185_64 : INS 185 64 = some (0, 1, 3, 0, .null, []) := rfl
set_option maxRecDepth 100000 in
theorem i185_65 : INS 185 65 = some (2, 1, 0, 0, .int 1, []) := rfl
set_option maxRecDepth 100000 in
theorem i185_66 : INS 185 66 = some (19, 1, 20, 0, .null, []) := rfl
set_option maxRecDepth 100000 in
theorem i185_67 : INS 185 67 = some (15, 3, 2, 0, .int 1, []) := rfl
set_option maxRecDepth 100000 in
theorem i185_70 : INS 185 70 = some (12, 3, 26, 0, .null, []) := rfl
set_option maxRecDepth 100000 in
theorem i185_73 : INS 185 73 = some (2, 1, 0, 0, .int 1, []) := rfl
set_option maxRecDepth 100000 in
theorem i185_74 : INS 185 74 = some (1, 1, 2, 0, .null, []) := rfl
set_option maxRecDepth 100000 in
theorem i185_75 : INS 185 75 = some (2, 1, 0, 0, .int 1, []) := rfl
set_option maxRecDepth 100000 in
theorem i185_76 : INS 185 76 = some (1, 1, 3, 0, .null, []) := rfl
set_option maxRecDepth 100000 in
theorem i185_77 : INS 185 77 = some (0, 1, 2, 0, .null, []) := rfl
set_option maxRecDepth 100000 in
theorem i185_78 : INS 185 78 = some (9, 3, 139, 0, .null, []) := rfl
set_option maxRecDepth 100000 in
theorem i185_81 : INS 185 81 = some (2, 1, 0, 0, .int 0, []) := rfl
set_option maxRecDepth 100000 in
theorem i185_82 : INS 185 82 = some (1, 1, 2, 0, .null, []) := rfl
set_option maxRecDepth 100000 in
theorem i185_83 : INS 185 83 = some (2, 1, 0, 0, .int 0, []) := rfl
set_option maxRecDepth 100000 in
theorem i185_84 : INS 185 84 = some (1, 2, 4, 0, .null, []) := rfl
set_option maxRecDepth 100000 in
theorem i185_86 : INS 185 86 = some (0, 2, 4, 0, .null, []) := rfl
set_option maxRecDepth 100000 in
theorem i185_88 : INS 185 88 = some (2, 3, 0, 0, .int 144, []) := rfl
set_option maxRecDepth 100000 in
theorem i185_91 : INS 185 91 = some (10, 3, 133, 3, .null, []) := rfl
set_option maxRecDepth 100000 in
theorem i185_94 : INS 185 94 = some (0, 1, 0, 2, .null, []) := rfl
set_option maxRecDepth 100000 in
theorem i185_95 : INS 185 95 = some (16, 3, 11, 50, .null, []) := rfl
set_option maxRecDepth 100000 in
theorem i185_98 : INS 185 98 = some (0, 2, 4, 0, .null, []) := rfl
set_option maxRecDepth 100000 in
theorem i185_100 : INS 185 100 = some (18, 1, 20, 0, .null, []) := rfl
set_option maxRecDepth 100000 in
theorem i185_101 : INS 185 101 = some (0, 1, 3, 0, .null, []) := rfl
set_option maxRecDepth 100000 in
theorem i185_102 : INS 185 102 = some (10, 3, 127, 1, .null, []) := rfl
set_option maxRecDepth 100000 in
theorem i185_105 : INS 185 105 = some (0, 1, 0, 2, .null, []) := rfl
set_option maxRecDepth 100000 in
theorem i185_106 : INS 185 106 = some (0, 2, 4, 0, .null, []) := rfl
set_option maxRecDepth 100000 in
theorem i185_108 : INS 185 108 = some (0, 1, 3, 0, .null, []) := rfl
set_option maxRecDepth 100000 in
theorem i185_109 : INS 185 109 = some (2, 1, 0, 0, .int 1, []) := rfl
set_option maxRecDepth 100000 in
theorem i185_110 : INS 185 110 = some (3, 1, 0, 0, .null, []) := rfl
set_option maxRecDepth 100000 in
theorem i185_111 : INS 185 111 = some (24, 3, 186, 0, .null, []) := rfl
set_option maxRecDepth 100000 in
theorem i185_114 : INS 185 114 = some (9, 3, 121, 1, .null, []) := rfl
set_option maxRecDepth 100000 in
theorem i185_117 : INS 185 117 = some (0, 1, 2, 0, .null, []) := rfl
set_option maxRecDepth 100000 in
theorem i185_118 : INS 185 118 = some (9, 3, 125, 0, .null, []) := rfl
set_option maxRecDepth 100000 in
theorem i185_121 : INS 185 121 = some (2, 1, 0, 0, .int 1, []) := rfl
set_option maxRecDepth 100000 in
theorem i185_122 : INS 185 122 = some (12, 3, 126, 0, .null, []) := rfl
set_option maxRecDepth 100000 in
theorem i185_125 : INS 185 125 = some (2, 1, 0, 0, .int 0, []) := rfl
set_option maxRecDepth 100000 in
theorem i185_126 : INS 185 126 = some (1, 1, 2, 0, .null, []) := rfl
set_option maxRecDepth 100000 in
theorem i185_127 : INS 185 127 = some (15, 3, 4, 0, .int 1, []) := rfl
set_option maxRecDepth 100000 in
theorem i185_130 : INS 185 130 = some (12, 3, 86, 0, .null, []) := rfl
set_option maxRecDepth 100000 in
theorem i185_133 : INS 185 133 = some (15, 3, 3, 0, .int 1, []) := rfl
set_option maxRecDepth 100000 in
theorem i185_136 : INS 185 136 = some (12, 3, 77, 0, .null, []) := rfl
set_option maxRecDepth 100000 in
theorem i185_139 : INS 185 139 = some (27, 1, 3, 0, .null, []) := rfl
set_option maxRecDepth 100000 in
theorem i186_0 : INS 186 0 = some (2, 1, 0, 0, .int 0, []) := rfl
set_option maxRecDepth 100000 in
theorem i186_1 : INS 186 1 = some (1, 1, 3, 0, .null, []) := rfl
set_option maxRecDepth 100000 in
theorem i186_2 : INS 186 2 = some (2, 1, 0, 0, .int 0, []) := rfl
set_option maxRecDepth 100000 in
theorem i186_3 : INS 186 3 = some (1, 2, 4, 0, .null, []) := rfl
set_option maxRecDepth 100000 in
theorem i186_5 : INS 186 5 = some (0, 2, 4, 0, .null, []) := rfl
set_option maxRecDepth 100000 in
theorem i186_7 : INS 186 7 = some (2, 1, 0, 0, .int 4, []) := rfl
set_option maxRecDepth 100000 in
theorem i186_8 : INS 186 8 = some (10, 3, 64, 3, .null, []) := rfl
set_option maxRecDepth 100000 in
theorem i186_11 : INS 186 11 = some (0, 1, 1, 0, .null, []) := rfl
set_option maxRecDepth 100000 in
theorem i186_12 : INS 186 12 = some (0, 2, 4, 0, .null, []) := rfl
set_option maxRecDepth 100000 in
theorem i186_14 : INS 186 14 = some (24, 3, 127, 2, .null, []) := rfl
set_option maxRecDepth 100000 in
theorem i186_17 : INS 186 17 = some (1, 2, 5, 0, .null, []) := rfl
set_option maxRecDepth 100000 in
theorem i186_19 : INS 186 19 = some (0, 2, 5, 0, .null, []) := rfl
set_option maxRecDepth 100000 in
theorem i186_21 : INS 186 21 = some (2, 1, 0, 0, .int (-1), []) := rfl
set_option maxRecDepth 100000 in
theorem i186_22 : INS 186 22 = some (10, 3, 58, 0, .null, []) := rfl
set_option maxRecDepth 100000 in
theorem i186_25 : INS 186 25 = some (0, 1, 0, 2, .null, []) := rfl
set_option maxRecDepth 100000 in
theorem i186_26 : INS 186 26 = some (16, 3, 11, 8, .null, []) := rfl
set_option maxRecDepth 100000 in
theorem i186_29 : INS 186 29 = some (0, 2, 5, 0, .null, []) := rfl
set_option maxRecDepth 100000 in
theorem i186_31 : INS 186 31 = some (18, 1, 20, 0, .null, []) := rfl
set_option maxRecDepth 100000 in
theorem i186_32 : INS 186 32 = some (9, 3, 58, 1, .null, []) := rfl
set_option maxRecDepth 100000 in
theorem i186_35 : INS 186 35 = some (0, 1, 0, 2, .null, []) := rfl
set_option maxRecDepth 100000 in
theorem i186_36 : INS 186 36 = some (16, 3, 11, 50, .null, []) := rfl
set_option maxRecDepth 100000 in
theorem i186_39 : INS 186 39 = some (0, 2, 5, 0, .null, []) := rfl
set_option maxRecDepth 100000 in
theorem i186_41 : INS 186 41 = some (18, 1, 20, 0, .null, []) := rfl
set_option maxRecDepth 100000 in
theorem i186_42 : INS 186 42 = some (2, 3, 0, 0, .int 1000, []) := rfl
set_option maxRecDepth 100000 in
theorem i186_45 : INS 186 45 = some (10, 3, 58, 1, .null, []) := rfl
set_option maxRecDepth 100000 in
theorem i186_48 : INS 186 48 = some (0, 1, 0, 2, .null, []) := rfl
set_option maxRecDepth 100000 in
theorem i186_49 : INS 186 49 = some (16, 3, 11, 50, .null, []) := rfl
set_option maxRecDepth 100000 in
theorem i186_52 : INS 186 52 = some (0, 2, 5, 0, .null, []) := rfl
set_option maxRecDepth 100000 in
theorem i186_54 : INS 186 54 = some (0, 1, 2, 0, .null, []) := rfl
set_option maxRecDepth 100000 in
theorem i186_55 : INS 186 55 = some (19, 1, 20, 0, .null, []) := rfl
set_option maxRecDepth 100000 in
theorem i186_56 : INS 186 56 = some (2, 1, 0, 0, .int 1, []) := rfl
set_option maxRecDepth 100000 in
theorem i186_57 : INS 186 57 = some (1, 1, 3, 0, .null, []) := rfl
set_option maxRecDepth 100000 in
theorem i186_58 : INS 186 58 = some (15, 3, 4, 0, .int 1, []) := rfl
set_option maxRecDepth 100000 in
theorem i186_61 : INS 186 61 = some (12, 3, 5, 0, .null, []) := rfl
set_option maxRecDepth 100000 in
theorem i186_64 : INS 186 64 = some (0, 1, 3, 0, .null, []) := rfl
set_option maxRecDepth 100000 in
theorem i186_65 : INS 186 65 = some (27, 1, 0, 0, .null, []) := rfl
set_option maxRecDepth 100000 in
theorem i187_0 : INS 187 0 = some (0, 1, 1, 0, .null, []) := rfl
set_option maxRecDepth 100000 in
theorem i187_1 : INS 187 1 = some (24, 3, 125, 2, .null, []) := rfl
set_option maxRecDepth 100000 in
theorem i187_4 : INS 187 4 = some (9, 3, 41, 0, .null, []) := rfl
set_option maxRecDepth 100000 in
theorem i187_7 : INS 187 7 = some (0, 1, 0, 2, .null, []) := rfl
set_option maxRecDepth 100000 in
theorem i187_8 : INS 187 8 = some (16, 3, 11, 8, .null, []) := rfl
set_option maxRecDepth 100000 in
theorem i187_11 : INS 187 11 = some (0, 1, 1, 0, .null, []) := rfl
set_option maxRecDepth 100000 in
theorem i187_12 : INS 187 12 = some (18, 1, 20, 0, .null, []) := rfl
set_option maxRecDepth 100000 in
theorem i187_13 : INS 187 13 = some (9, 3, 41, 0, .null, []) := rfl
set_option maxRecDepth 100000 in
theorem i187_16 : INS 187 16 = some (0, 1, 0, 2, .null, []) := rfl
set_option maxRecDepth 100000 in
theorem i187_17 : INS 187 17 = some (16, 3, 11, 8, .null, []) := rfl
set_option maxRecDepth 100000 in
theorem i187_20 : INS 187 20 = some (0, 1, 1, 0, .null, []) := rfl
set_option maxRecDepth 100000 in
theorem i187_21 : INS 187 21 = some (18, 1, 20, 0, .null, []) := rfl
set_option maxRecDepth 100000 in
theorem i187_22 : INS 187 22 = some (2, 1, 0, 0, .int 2, []) := rfl
set_option maxRecDepth 100000 in
theorem i187_23 : INS 187 23 = some (10, 3, 41, 0, .null, []) := rfl
set_option maxRecDepth 100000 in
theorem i187_26 : INS 187 26 = some (0, 1, 0, 2, .null, []) := rfl
set_option maxRecDepth 100000 in
theorem i187_27 : INS 187 27 = some (16, 3, 11, 8, .null, []) := rfl
set_option maxRecDepth 100000 in
theorem i187_30 : INS 187 30 = some (0, 1, 1, 0, .null, []) := rfl
set_option maxRecDepth 100000 in
theorem i187_31 : INS 187 31 = some (18, 1, 20, 0, .null, []) := rfl
set_option maxRecDepth 100000 in
theorem i187_32 : INS 187 32 = some (2, 2, 0, 0, .int 7, []) := rfl
set_option maxRecDepth 100000 in
theorem i187_34 : INS 187 34 = some (10, 3, 41, 0, .null, []) := rfl
set_option maxRecDepth 100000 in
theorem i187_37 : INS 187 37 = some (2, 1, 0, 0, .int 1, []) := rfl
set_option maxRecDepth 100000 in
theorem i187_38 : INS 187 38 = some (12, 3, 42, 0, .null, []) := rfl
set_option maxRecDepth 100000 in
theorem i187_41 : INS 187 41 = some (2, 1, 0, 0, .int 0, []) := rfl
set_option maxRecDepth 100000 in
theorem i187_42 : INS 187 42 = some (27, 1, 0, 0, .null, []) := rfl
set_option maxRecDepth 100000 in
theorem i188_0 : INS 188 0 = some (0, 1, 1, 0, .null, []) := rfl
set_option maxRecDepth 100000 in
theorem i188_1 : INS 188 1 = some (24, 3, 125, 2, .null, []) := rfl
set_option maxRecDepth 100000 in
theorem i188_4 : INS 188 4 = some (9, 3, 40, 0, .null, []) := rfl
set_option maxRecDepth 100000 in
theorem i188_7 : INS 188 7 = some (0, 1, 0, 2, .null, []) := rfl
set_option maxRecDepth 100000 in
theorem i188_8 : INS 188 8 = some (16, 3, 11, 8, .null, []) := rfl
set_option maxRecDepth 100000 in
theorem i188_11 : INS 188 11 = some (0, 1, 1, 0, .null, []) := rfl
set_option maxRecDepth 100000 in
theorem i188_12 : INS 188 12 = some (18, 1, 20, 0, .null, []) := rfl
set_option maxRecDepth 100000 in
theorem i188_13 : INS 188 13 = some (9, 3, 40, 0, .null, []) := rfl
set_option maxRecDepth 100000 in
theorem i188_16 : INS 188 16 = some (0, 1, 0, 2, .null, []) := rfl
set_option maxRecDepth 100000 in
theorem i188_17 : INS 188 17 = some (16, 3, 11, 8, .null, []) := rfl
set_option maxRecDepth 100000 in
theorem i188_20 : INS 188 20 = some (0, 1, 1, 0, .null, []) := rfl
set_option maxRecDepth 100000 in
theorem i188_21 : INS 188 21 = some (18, 1, 20, 0, .null, []) := rfl
set_option maxRecDepth 100000 in
theorem i188_22 : INS 188 22 = some (2, 1, 0, 0, .int 3, []) := rfl
set_option maxRecDepth 100000 in
theorem i188_23 : INS 188 23 = some (10, 3, 40, 0, .null, []) := rfl
set_option maxRecDepth 100000 in
theorem i188_26 : INS 188 26 = some (0, 1, 0, 2, .null, []) := rfl
set_option maxRecDepth 100000 in
theorem i188_27 : INS 188 27 = some (16, 3, 11, 8, .null, []) := rfl
set_option maxRecDepth 100000 in
theorem i188_30 : INS 188 30 = some (0, 1, 1, 0, .null, []) := rfl
set_option maxRecDepth 100000 in
theorem i188_31 : INS 188 31 = some (18, 1, 20, 0, .null, []) := rfl
set_option maxRecDepth 100000 in
theorem i188_32 : INS 188 32 = some (2, 1, 0, 0, .int 5, []) := rfl
set_option maxRecDepth 100000 in
theorem i188_33 : INS 188 33 = some (10, 3, 40, 0, .null, []) := rfl
set_option maxRecDepth 100000 in
theorem i188_36 : INS 188 36 = some (2, 1, 0, 0, .int 1, []) := rfl
set_option maxRecDepth 100000 in
theorem i188_37 : INS 188 37 = some (12, 3, 41, 0, .null, []) := rfl
set_option maxRecDepth 100000 in
theorem i188_40 : INS 188 40 = some (2, 1, 0, 0, .int 0, []) := rfl
set_option maxRecDepth 100000 in
theorem i188_41 : INS 188 41 = some (27, 1, 0, 0, .null, []) := rfl
set_option maxRecDepth 100000 in
theorem i189_0 : INS 189 0 = some (0, 1, 0, 2, .null, []) := rfl
set_option maxRecDepth 100000 in
theorem i189_1 : INS 189 1 = some (0, 1, 1, 0, .null, []) := rfl
set_option maxRecDepth 100000 in
theorem i189_2 : INS 189 2 = some (24, 3, 187, 0, .null, []) := rfl
set_option maxRecDepth 100000 in
theorem i189_5 : INS 189 5 = some (9, 3, 21, 0, .null, []) := rfl
set_option maxRecDepth 100000 in
theorem i189_8 : INS 189 8 = some (0, 1, 0, 2, .null, []) := rfl
set_option maxRecDepth 100000 in
theorem i189_9 : INS 189 9 = some (0, 1, 2, 0, .null, []) := rfl
set_option maxRecDepth 100000 in
theorem i189_10 : INS 189 10 = some (24, 3, 188, 0, .null, []) := rfl
set_option maxRecDepth 100000 in
theorem i189_13 : INS 189 13 = some (9, 3, 21, 0, .null, []) := rfl
set_option maxRecDepth 100000 in
theorem i189_16 : INS 189 16 = some (0, 1, 1, 0, .null, []) := rfl
set_option maxRecDepth 100000 in
theorem i189_17 : INS 189 17 = some (0, 1, 2, 0, .null, []) := rfl
set_option maxRecDepth 100000 in
theorem i189_18 : INS 189 18 = some (10, 3, 23, 1, .null, []) := rfl
set_option maxRecDepth 100000 in
theorem i189_21 : INS 189 21 = some (2, 1, 0, 0, .int (-1), []) := rfl
set_option maxRecDepth 100000 in
theorem i189_22 : INS 189 22 = some (27, 1, 0, 0, .null, []) := rfl
set_option maxRecDepth 100000 in
theorem i189_23 : INS 189 23 = some (0, 1, 0, 2, .null, []) := rfl
set_option maxRecDepth 100000 in
theorem i189_24 : INS 189 24 = some (0, 1, 2, 0, .null, []) := rfl
set_option maxRecDepth 100000 in
theorem i189_25 : INS 189 25 = some (24, 3, 185, 0, .null, []) := rfl
set_option maxRecDepth 100000 in
theorem i189_28 : INS 189 28 = some (2, 3, 0, 0, .int 1000, []) := rfl
set_option maxRecDepth 100000 in
theorem i189_31 : INS 189 31 = some (1, 1, 3, 0, .null, []) := rfl
set_option maxRecDepth 100000 in
theorem i189_32 : INS 189 32 = some (2, 1, 0, 0, .int 0, []) := rfl
set_option maxRecDepth 100000 in
theorem i189_33 : INS 189 33 = some (1, 2, 4, 0, .null, []) := rfl
set_option maxRecDepth 100000 in
theorem i189_35 : INS 189 35 = some (0, 2, 4, 0, .null, []) := rfl
set_option maxRecDepth 100000 in
theorem i189_37 : INS 189 37 = some (2, 1, 0, 0, .int 4, []) := rfl
set_option maxRecDepth 100000 in
theorem i189_38 : INS 189 38 = some (10, 3, 126, 3, .null, []) := rfl
set_option maxRecDepth 100000 in
theorem i189_41 : INS 189 41 = some (0, 1, 1, 0, .null, []) := rfl
set_option maxRecDepth 100000 in
theorem i189_42 : INS 189 42 = some (0, 2, 4, 0, .null, []) := rfl
set_option maxRecDepth 100000 in
theorem i189_44 : INS 189 44 = some (24, 3, 127, 2, .null, []) := rfl
set_option maxRecDepth 100000 in
theorem i189_47 : INS 189 47 = some (1, 2, 5, 0, .null, []) := rfl
set_option maxRecDepth 100000 in
theorem i189_49 : INS 189 49 = some (0, 2, 5, 0, .null, []) := rfl
set_option maxRecDepth 100000 in
theorem i189_51 : INS 189 51 = some (2, 1, 0, 0, .int (-1), []) := rfl
set_option maxRecDepth 100000 in
theorem i189_52 : INS 189 52 = some (10, 3, 120, 0, .null, []) := rfl
set_option maxRecDepth 100000 in
theorem i189_55 : INS 189 55 = some (0, 1, 0, 2, .null, []) := rfl
set_option maxRecDepth 100000 in
theorem i189_56 : INS 189 56 = some (0, 1, 1, 0, .null, []) := rfl
set_option maxRecDepth 100000 in
theorem i189_57 : INS 189 57 = some (0, 2, 4, 0, .null, []) := rfl
set_option maxRecDepth 100000 in
theorem i189_59 : INS 189 59 = some (24, 3, 128, 0, .null, []) := rfl
set_option maxRecDepth 100000 in
theorem i189_62 : INS 189 62 = some (9, 3, 120, 0, .null, []) := rfl
set_option maxRecDepth 100000 in
theorem i189_65 : INS 189 65 = some (0, 2, 5, 0, .null, []) := rfl
set_option maxRecDepth 100000 in
theorem i189_67 : INS 189 67 = some (0, 1, 2, 0, .null, []) := rfl
set_option maxRecDepth 100000 in
theorem i189_68 : INS 189 68 = some (10, 3, 87, 1, .null, []) := rfl
set_option maxRecDepth 100000 in
theorem i189_71 : INS 189 71 = some (0, 1, 0, 2, .null, []) := rfl
set_option maxRecDepth 100000 in
theorem i189_72 : INS 189 72 = some (0, 1, 2, 0, .null, []) := rfl
set_option maxRecDepth 100000 in
theorem i189_73 : INS 189 73 = some (0, 2, 4, 0, .null, []) := rfl
set_option maxRecDepth 100000 in
theorem i189_75 : INS 189 75 = some (2, 1, 0, 0, .int 2, []) := rfl
set_option maxRecDepth 100000 in
theorem i189_76 : INS 189 76 = some (3, 1, 0, 0, .null, []) := rfl
set_option maxRecDepth 100000 in
theorem i189_77 : INS 189 77 = some (2, 1, 0, 0, .int 4, []) := rfl
set_option maxRecDepth 100000 in
theorem i189_78 : INS 189 78 = some (3, 1, 4, 0, .null, []) := rfl
set_option maxRecDepth 100000 in
theorem i189_79 : INS 189 79 = some (24, 3, 128, 0, .null, []) := rfl
set_option maxRecDepth 100000 in
theorem i189_82 : INS 189 82 = some (9, 3, 87, 1, .null, []) := rfl
set_option maxRecDepth 100000 in
theorem i189_85 : INS 189 85 = some (2, 1, 0, 0, .int 0, []) := rfl
set_option maxRecDepth 100000 in
theorem i189_86 : INS 189 86 = some (27, 1, 0, 0, .null, []) := rfl
set_option maxRecDepth 100000 in
theorem i189_87 : INS 189 87 = some (0, 1, 0, 2, .null, []) := rfl
set_option maxRecDepth 100000 in
theorem i189_88 : INS 189 88 = some (16, 3, 11, 8, .null, []) := rfl
set_option maxRecDepth 100000 in
theorem i189_91 : INS 189 91 = some (0, 2, 5, 0, .null, []) := rfl
set_option maxRecDepth 100000 in
theorem i189_93 : INS 189 93 = some (18, 1, 20, 0, .null, []) := rfl
set_option maxRecDepth 100000 in
theorem i189_94 : INS 189 94 = some (9, 3, 118, 1, .null, []) := rfl
set_option maxRecDepth 100000 in
theorem i189_97 : INS 189 97 = some (0, 1, 0, 2, .null, []) := rfl
set_option maxRecDepth 100000 in
theorem i189_98 : INS 189 98 = some (16, 3, 11, 50, .null, []) := rfl
set_option maxRecDepth 100000 in
theorem i189_101 : INS 189 101 = some (0, 2, 5, 0, .null, []) := rfl
set_option maxRecDepth 100000 in
theorem i189_103 : INS 189 103 = some (18, 1, 20, 0, .null, []) := rfl
set_option maxRecDepth 100000 in
theorem i189_104 : INS 189 104 = some (0, 1, 3, 0, .null, []) := rfl
set_option maxRecDepth 100000 in
theorem i189_105 : INS 189 105 = some (10, 3, 118, 3, .null, []) := rfl
set_option maxRecDepth 100000 in
theorem i189_108 : INS 189 108 = some (0, 1, 0, 2, .null, []) := rfl
set_option maxRecDepth 100000 in
theorem i189_109 : INS 189 109 = some (16, 3, 11, 50, .null, []) := rfl
set_option maxRecDepth 100000 in
theorem i189_112 : INS 189 112 = some (0, 2, 5, 0, .null, []) := rfl
set_option maxRecDepth 100000 in
theorem i189_114 : INS 189 114 = some (18, 1, 20, 0, .null, []) := rfl
set_option maxRecDepth 100000 in
theorem i189_115 : INS 189 115 = some (12, 3, 119, 0, .null, []) := rfl
set_option maxRecDepth 100000 in
theorem i189_118 : INS 189 118 = some (0, 1, 3, 0, .null, []) := rfl
set_option maxRecDepth 100000 in
theorem i189_119 : INS 189 119 = some (1, 1, 3, 0, .null, []) := rfl
set_option maxRecDepth 100000 in
theorem i189_120 : INS 189 120 = some (15, 3, 4, 0, .int 1, []) := rfl
set_option maxRecDepth 100000 in
theorem i189_123 : INS 189 123 = some (12, 3, 35, 0, .null, []) := rfl
set_option maxRecDepth 100000 in
theorem i189_126 : INS 189 126 = some (0, 1, 3, 0, .null, []) := rfl
set_option maxRecDepth 100000 in
theorem i189_127 : INS 189 127 = some (2, 3, 0, 0, .int 1000, []) := rfl
set_option maxRecDepth 100000 in
theorem i189_130 : INS 189 130 = some (10, 3, 137, 1, .null, []) := rfl
set_option maxRecDepth 100000 in
theorem i189_133 : INS 189 133 = some (2, 1, 0, 0, .int (-1), []) := rfl
set_option maxRecDepth 100000 in
theorem i189_134 : INS 189 134 = some (12, 3, 138, 0, .null, []) := rfl
set_option maxRecDepth 100000 in
theorem i189_137 : INS 189 137 = some (0, 1, 3, 0, .null, []) := rfl
set_option maxRecDepth 100000 in
theorem i189_138 : INS 189 138 = some (27, 1, 0, 0, .null, []) := rfl
set_option maxRecDepth 100000 in
theorem i190_0 : INS 190 0 = some (0, 1, 0, 2, .null, []) := rfl
set_option maxRecDepth 100000 in
theorem i190_1 : INS 190 1 = some (0, 1, 1, 0, .null, []) := rfl
set_option maxRecDepth 100000 in
theorem i190_2 : INS 190 2 = some (0, 1, 2, 0, .null, []) := rfl
set_option maxRecDepth 100000 in
theorem i190_3 : INS 190 3 = some (24, 3, 189, 0, .null, []) := rfl
set_option maxRecDepth 100000 in
theorem i190_6 : INS 190 6 = some (27, 1, 0, 0, .null, []) := rfl
set_option maxRecDepth 100000 in
theorem i191_0 : INS 191 0 = some (2, 1, 0, 0, .int 0, []) := rfl
set_option maxRecDepth 100000 in
theorem i191_1 : INS 191 1 = some (1, 2, 5, 0, .null, []) := rfl
set_option maxRecDepth 100000 in
theorem i191_3 : INS 191 3 = some (0, 2, 5, 0, .null, []) := rfl
set_option maxRecDepth 100000 in
theorem i191_5 : INS 191 5 = some (2, 1, 0, 0, .int 4, []) := rfl
set_option maxRecDepth 100000 in
theorem i191_6 : INS 191 6 = some (10, 3, 107, 3, .null, []) := rfl
set_option maxRecDepth 100000 in
theorem i191_9 : INS 191 9 = some (0, 1, 1, 0, .null, []) := rfl
set_option maxRecDepth 100000 in
theorem i191_10 : INS 191 10 = some (0, 2, 5, 0, .null, []) := rfl
set_option maxRecDepth 100000 in
theorem i191_12 : INS 191 12 = some (24, 3, 127, 2, .null, []) := rfl
set_option maxRecDepth 100000 in
theorem i191_15 : INS 191 15 = some (1, 2, 6, 0, .null, []) := rfl
set_option maxRecDepth 100000 in
theorem i191_17 : INS 191 17 = some (0, 2, 6, 0, .null, []) := rfl
set_option maxRecDepth 100000 in
theorem i191_19 : INS 191 19 = some (2, 1, 0, 0, .int (-1), []) := rfl
set_option maxRecDepth 100000 in
theorem i191_20 : INS 191 20 = some (10, 3, 42, 0, .null, []) := rfl
set_option maxRecDepth 100000 in
theorem i191_23 : INS 191 23 = some (0, 2, 4, 0, .null, []) := rfl
set_option maxRecDepth 100000 in
theorem i191_25 : INS 191 25 = some (9, 3, 38, 0, .null, []) := rfl
set_option maxRecDepth 100000 in
theorem i191_28 : INS 191 28 = some (0, 1, 0, 2, .null, []) := rfl
set_option maxRecDepth 100000 in
theorem i191_29 : INS 191 29 = some (0, 1, 1, 0, .null, []) := rfl
set_option maxRecDepth 100000 in
theorem i191_30 : INS 191 30 = some (0, 2, 5, 0, .null, []) := rfl
set_option maxRecDepth 100000 in
theorem i191_32 : INS 191 32 = some (24, 3, 128, 0, .null, []) := rfl
set_option maxRecDepth 100000 in
theorem i191_35 : INS 191 35 = some (9, 3, 42, 0, .null, []) := rfl
set_option maxRecDepth 100000 in
theorem i191_38 : INS 191 38 = some (2, 1, 0, 0, .int 1, []) := rfl
set_option maxRecDepth 100000 in
theorem i191_39 : INS 191 39 = some (12, 3, 43, 0, .null, []) := rfl
set_option maxRecDepth 100000 in
theorem i191_42 : INS 191 42 = some (2, 1, 0, 0, .int 0, []) := rfl
set_option maxRecDepth 100000 in
theorem i191_43 : INS 191 43 = some (1, 2, 7, 0, .null, []) := rfl
set_option maxRecDepth 100000 in
theorem i191_45 : INS 191 45 = some (0, 2, 7, 0, .null, []) := rfl
set_option maxRecDepth 100000 in
theorem i191_47 : INS 191 47 = some (9, 3, 101, 0, .null, []) := rfl
set_option maxRecDepth 100000 in
theorem i191_50 : INS 191 50 = some (0, 1, 3, 0, .null, []) := rfl
set_option maxRecDepth 100000 in
theorem i191_51 : INS 191 51 = some (9, 3, 77, 1, .null, []) := rfl
set_option maxRecDepth 100000 in
theorem i191_54 : INS 191 54 = some (0, 2, 6, 0, .null, []) := rfl
set_option maxRecDepth 100000 in
theorem i191_56 : INS 191 56 = some (0, 1, 2, 0, .null, []) := rfl
set_option maxRecDepth 100000 in
theorem i191_57 : INS 191 57 = some (10, 3, 101, 1, .null, []) := rfl
set_option maxRecDepth 100000 in
theorem i191_60 : INS 191 60 = some (0, 1, 0, 2, .null, []) := rfl
set_option maxRecDepth 100000 in
theorem i191_61 : INS 191 61 = some (0, 1, 2, 0, .null, []) := rfl
set_option maxRecDepth 100000 in
theorem i191_62 : INS 191 62 = some (0, 2, 5, 0, .null, []) := rfl
set_option maxRecDepth 100000 in
theorem i191_64 : INS 191 64 = some (2, 1, 0, 0, .int 2, []) := rfl
set_option maxRecDepth 100000 in
theorem i191_65 : INS 191 65 = some (3, 1, 0, 0, .null, []) := rfl
set_option maxRecDepth 100000 in
theorem i191_66 : INS 191 66 = some (2, 1, 0, 0, .int 4, []) := rfl
set_option maxRecDepth 100000 in
theorem i191_67 : INS 191 67 = some (3, 1, 4, 0, .null, []) := rfl
set_option maxRecDepth 100000 in
theorem i191_68 : INS 191 68 = some (24, 3, 128, 0, .null, []) := rfl
set_option maxRecDepth 100000 in
theorem i191_71 : INS 191 71 = some (9, 3, 101, 1, .null, []) := rfl
set_option maxRecDepth 100000 in
theorem i191_74 : INS 191 74 = some (12, 3, 98, 0, .null, []) := rfl
set_option maxRecDepth 100000 in
theorem i191_77 : INS 191 77 = some (0, 1, 0, 2, .null, []) := rfl
set_option maxRecDepth 100000 in
theorem i191_78 : INS 191 78 = some (16, 3, 11, 8, .null, []) := rfl
set_option maxRecDepth 100000 in
theorem i191_81 : INS 191 81 = some (0, 2, 6, 0, .null, []) := rfl
set_option maxRecDepth 100000 in
theorem i191_83 : INS 191 83 = some (18, 1, 20, 0, .null, []) := rfl
set_option maxRecDepth 100000 in
theorem i191_84 : INS 191 84 = some (9, 3, 101, 1, .null, []) := rfl
set_option maxRecDepth 100000 in
theorem i191_87 : INS 191 87 = some (0, 1, 0, 2, .null, []) := rfl
set_option maxRecDepth 100000 in
theorem i191_88 : INS 191 88 = some (16, 3, 11, 50, .null, []) := rfl
set_option maxRecDepth 100000 in
theorem i191_91 : INS 191 91 = some (0, 2, 6, 0, .null, []) := rfl
set_option maxRecDepth 100000 in
theorem i191_93 : INS 191 93 = some (18, 1, 20, 0, .null, []) := rfl
set_option maxRecDepth 100000 in
theorem i191_94 : INS 191 94 = some (0, 1, 3, 0, .null, []) := rfl
set_option maxRecDepth 100000 in
theorem i191_95 : INS 191 95 = some (10, 3, 101, 1, .null, []) := rfl
set_option maxRecDepth 100000 in
theorem i191_98 : INS 191 98 = some (0, 2, 5, 0, .null, []) := rfl
set_option maxRecDepth 100000 in
theorem i191_100 : INS 191 100 = some (27, 1, 0, 0, .null, []) := rfl
set_option maxRecDepth 100000 in
theorem i191_101 : INS 191 101 = some (15, 3, 5, 0, .int 1, []) := rfl
set_option maxRecDepth 100000 in
theorem i191_104 : INS 191 104 = some (12, 3, 3, 0, .null, []) := rfl
set_option maxRecDepth 100000 in
theorem i191_107 : INS 191 107 = some (2, 1, 0, 0, .int (-1), []) := rfl
set_option maxRecDepth 100000 in
theorem i191_108 : INS 191 108 = some (27, 1, 0, 0, .null, []) := rfl
set_option maxRecDepth 100000 in
theorem i192_0 : INS 192 0 = some (0, 1, 1, 0, .null, []) := rfl
set_option maxRecDepth 100000 in
theorem i192_1 : INS 192 1 = some (24, 3, 125, 2, .null, []) := rfl
set_option maxRecDepth 100000 in
theorem i192_4 : INS 192 4 = some (9, 3, 14, 0, .null, []) := rfl
set_option maxRecDepth 100000 in
theorem i192_7 : INS 192 7 = some (0, 1, 2, 0, .null, []) := rfl
set_option maxRecDepth 100000 in
theorem i192_8 : INS 192 8 = some (24, 3, 125, 2, .null, []) := rfl
set_option maxRecDepth 100000 in
theorem i192_11 : INS 192 11 = some (9, 3, 20, 1, .null, []) := rfl
set_option maxRecDepth 100000 in
theorem i192_14 : INS 192 14 = some (0, 1, 0, 2, .null, []) := rfl
set_option maxRecDepth 100000 in
theorem i192_15 : INS 192 15 = some (2, 1, 0, 0, .int (-1), []) := rfl
set_option maxRecDepth 100000 in
theorem i192_16 : INS 192 16 = some (24, 3, 124, 0, .null, []) := rfl
set_option maxRecDepth 100000 in
theorem i192_19 : INS 192 19 = some (27, 1, 0, 0, .null, []) := rfl
set_option maxRecDepth 100000 in
theorem i192_20 : INS 192 20 = some (0, 1, 0, 2, .null, []) := rfl
set_option maxRecDepth 100000 in
theorem i192_21 : INS 192 21 = some (0, 1, 1, 0, .null, []) := rfl
set_option maxRecDepth 100000 in
theorem i192_22 : INS 192 22 = some (0, 1, 2, 0, .null, []) := rfl
set_option maxRecDepth 100000 in
theorem i192_23 : INS 192 23 = some (24, 3, 189, 0, .null, []) := rfl
set_option maxRecDepth 100000 in
theorem i192_26 : INS 192 26 = some (1, 1, 3, 0, .null, []) := rfl
set_option maxRecDepth 100000 in
theorem i192_27 : INS 192 27 = some (0, 1, 3, 0, .null, []) := rfl
set_option maxRecDepth 100000 in
theorem i192_28 : INS 192 28 = some (2, 1, 0, 0, .int (-1), []) := rfl
set_option maxRecDepth 100000 in
theorem i192_29 : INS 192 29 = some (10, 3, 39, 1, .null, []) := rfl
set_option maxRecDepth 100000 in
theorem i192_32 : INS 192 32 = some (0, 1, 0, 2, .null, []) := rfl
set_option maxRecDepth 100000 in
theorem i192_33 : INS 192 33 = some (2, 2, 0, 0, .int (-6), []) := rfl
set_option maxRecDepth 100000 in
theorem i192_35 : INS 192 35 = some (24, 3, 124, 0, .null, []) := rfl
set_option maxRecDepth 100000 in
theorem i192_38 : INS 192 38 = some (27, 1, 0, 0, .null, []) := rfl
set_option maxRecDepth 100000 in
theorem i192_39 : INS 192 39 = some (0, 1, 3, 0, .null, []) := rfl
set_option maxRecDepth 100000 in
theorem i192_40 : INS 192 40 = some (9, 3, 47, 1, .null, []) := rfl
set_option maxRecDepth 100000 in
theorem i192_43 : INS 192 43 = some (0, 1, 1, 0, .null, []) := rfl
set_option maxRecDepth 100000 in
theorem i192_44 : INS 192 44 = some (12, 3, 59, 0, .null, []) := rfl
set_option maxRecDepth 100000 in
theorem i192_47 : INS 192 47 = some (0, 1, 1, 0, .null, []) := rfl
set_option maxRecDepth 100000 in
theorem i192_48 : INS 192 48 = some (0, 1, 0, 2, .null, []) := rfl
set_option maxRecDepth 100000 in
theorem i192_49 : INS 192 49 = some (0, 1, 1, 0, .null, []) := rfl
set_option maxRecDepth 100000 in
theorem i192_50 : INS 192 50 = some (0, 1, 2, 0, .null, []) := rfl
set_option maxRecDepth 100000 in
theorem i192_51 : INS 192 51 = some (0, 1, 3, 0, .null, []) := rfl
set_option maxRecDepth 100000 in
theorem i192_52 : INS 192 52 = some (2, 1, 0, 0, .int 1, []) := rfl
set_option maxRecDepth 100000 in
theorem i192_53 : INS 192 53 = some (24, 3, 191, 0, .null, []) := rfl
set_option maxRecDepth 100000 in
theorem i192_56 : INS 192 56 = some (24, 3, 127, 2, .null, []) := rfl
set_option maxRecDepth 100000 in
theorem i192_59 : INS 192 59 = some (1, 2, 4, 0, .null, []) := rfl
set_option maxRecDepth 100000 in
theorem i192_61 : INS 192 61 = some (0, 1, 3, 0, .null, []) := rfl
set_option maxRecDepth 100000 in
theorem i192_62 : INS 192 62 = some (2, 1, 0, 0, .int 1, []) := rfl
set_option maxRecDepth 100000 in
theorem i192_63 : INS 192 63 = some (3, 1, 1, 0, .null, []) := rfl
set_option maxRecDepth 100000 in
theorem i192_64 : INS 192 64 = some (1, 2, 5, 0, .null, []) := rfl
set_option maxRecDepth 100000 in
theorem i192_66 : INS 192 66 = some (0, 2, 5, 0, .null, []) := rfl
set_option maxRecDepth 100000 in
theorem i192_68 : INS 192 68 = some (9, 3, 109, 2, .null, []) := rfl
set_option maxRecDepth 100000 in
theorem i192_71 : INS 192 71 = some (0, 1, 0, 2, .null, []) := rfl
set_option maxRecDepth 100000 in
theorem i192_72 : INS 192 72 = some (0, 2, 4, 0, .null, []) := rfl
set_option maxRecDepth 100000 in
theorem i192_74 : INS 192 74 = some (0, 1, 2, 0, .null, []) := rfl
set_option maxRecDepth 100000 in
theorem i192_75 : INS 192 75 = some (0, 2, 5, 0, .null, []) := rfl
set_option maxRecDepth 100000 in
theorem i192_77 : INS 192 77 = some (2, 1, 0, 0, .int 0, []) := rfl
set_option maxRecDepth 100000 in
theorem i192_78 : INS 192 78 = some (24, 3, 191, 0, .null, []) := rfl
set_option maxRecDepth 100000 in
theorem i192_81 : INS 192 81 = some (1, 2, 6, 0, .null, []) := rfl
set_option maxRecDepth 100000 in
theorem i192_83 : INS 192 83 = some (0, 1, 0, 2, .null, []) := rfl
set_option maxRecDepth 100000 in
theorem i192_84 : INS 192 84 = some (0, 2, 4, 0, .null, []) := rfl
set_option maxRecDepth 100000 in
theorem i192_86 : INS 192 86 = some (2, 1, 0, 0, .int 1, []) := rfl
set_option maxRecDepth 100000 in
theorem i192_87 : INS 192 87 = some (0, 2, 6, 0, .null, []) := rfl
set_option maxRecDepth 100000 in
theorem i192_89 : INS 192 89 = some (2, 1, 0, 0, .int 0, []) := rfl
set_option maxRecDepth 100000 in
theorem i192_90 : INS 192 90 = some (2, 1, 0, 0, .int 0, []) := rfl
set_option maxRecDepth 100000 in
theorem i192_91 : INS 192 91 = some (24, 3, 133, 0, .null, []) := rfl
set_option maxRecDepth 100000 in
theorem i192_94 : INS 192 94 = some (0, 2, 4, 0, .null, []) := rfl
set_option maxRecDepth 100000 in
theorem i192_96 : INS 192 96 = some (0, 2, 6, 0, .null, []) := rfl
set_option maxRecDepth 100000 in
theorem i192_98 : INS 192 98 = some (24, 3, 127, 2, .null, []) := rfl
set_option maxRecDepth 100000 in
theorem i192_101 : INS 192 101 = some (1, 2, 4, 0, .null, []) := rfl
set_option maxRecDepth 100000 in
theorem i192_103 : INS 192 103 = some (15, 3, 5, 0, .int (-1), []) := rfl
set_option maxRecDepth 100000 in
theorem i192_106 : INS 192 106 = some (12, 3, 66, 0, .null, []) := rfl
set_option maxRecDepth 100000 in
theorem i192_109 : INS 192 109 = some (0, 1, 3, 0, .null, []) := rfl
set_option maxRecDepth 100000 in
theorem i192_110 : INS 192 110 = some (27, 1, 0, 0, .null, []) := rfl
set_option maxRecDepth 100000 in
theorem i193_0 : INS 193 0 = some (2, 1, 0, 0, .int 0, []) := rfl
set_option maxRecDepth 100000 in
theorem i193_1 : INS 193 1 = some (1, 1, 1, 0, .null, []) := rfl
set_option maxRecDepth 100000 in
theorem i193_2 : INS 193 2 = some (2, 1, 0, 0, .int 0, []) := rfl
set_option maxRecDepth 100000 in
theorem i193_3 : INS 193 3 = some (1, 1, 2, 0, .null, []) := rfl
set_option maxRecDepth 100000 in
theorem i193_4 : INS 193 4 = some (0, 1, 2, 0, .null, []) := rfl
set_option maxRecDepth 100000 in
theorem i193_5 : INS 193 5 = some (2, 3, 0, 0, .int 144, []) := rfl
set_option maxRecDepth 100000 in
theorem i193_8 : INS 193 8 = some (10, 3, 86, 3, .null, []) := rfl
set_option maxRecDepth 100000 in
theorem i193_11 : INS 193 11 = some (0, 1, 0, 2, .null, []) := rfl
set_option maxRecDepth 100000 in
theorem i193_12 : INS 193 12 = some (16, 3, 11, 8, .null, []) := rfl
set_option maxRecDepth 100000 in
theorem i193_15 : INS 193 15 = some (0, 1, 2, 0, .null, []) := rfl
set_option maxRecDepth 100000 in
theorem i193_16 : INS 193 16 = some (18, 1, 20, 0, .null, []) := rfl
set_option maxRecDepth 100000 in
theorem i193_17 : INS 193 17 = some (2, 2, 0, 0, .int 6, []) := rfl
set_option maxRecDepth 100000 in
theorem i193_19 : INS 193 19 = some (10, 3, 54, 1, .null, []) := rfl
set_option maxRecDepth 100000 in
theorem i193_22 : INS 193 22 = some (0, 1, 1, 0, .null, []) := rfl
set_option maxRecDepth 100000 in
theorem i193_23 : INS 193 23 = some (0, 1, 0, 2, .null, []) := rfl
set_option maxRecDepth 100000 in
theorem i193_24 : INS 193 24 = some (16, 3, 11, 18, .null, []) := rfl
set_option maxRecDepth 100000 in
theorem i193_27 : INS 193 27 = some (0, 1, 2, 0, .null, []) := rfl
set_option maxRecDepth 100000 in
theorem i193_28 : INS 193 28 = some (18, 1, 20, 0, .null, []) := rfl
set_option maxRecDepth 100000 in
theorem i193_29 : INS 193 29 = some (0, 1, 0, 2, .null, []) := rfl
set_option maxRecDepth 100000 in
theorem i193_30 : INS 193 30 = some (16, 3, 11, 21, .null, []) := rfl
set_option maxRecDepth 100000 in
theorem i193_33 : INS 193 33 = some (2, 1, 0, 0, .int 2, []) := rfl
set_option maxRecDepth 100000 in
theorem i193_34 : INS 193 34 = some (0, 1, 2, 0, .null, []) := rfl
set_option maxRecDepth 100000 in
theorem i193_35 : INS 193 35 = some (3, 1, 2, 0, .null, []) := rfl
set_option maxRecDepth 100000 in
theorem i193_36 : INS 193 36 = some (18, 1, 20, 0, .null, []) := rfl
set_option maxRecDepth 100000 in
theorem i193_37 : INS 193 37 = some (3, 1, 0, 0, .null, []) := rfl
set_option maxRecDepth 100000 in
theorem i193_38 : INS 193 38 = some (0, 1, 0, 2, .null, []) := rfl
set_option maxRecDepth 100000 in
theorem i193_39 : INS 193 39 = some (16, 3, 11, 21, .null, []) := rfl
set_option maxRecDepth 100000 in
theorem i193_42 : INS 193 42 = some (2, 1, 0, 0, .int 2, []) := rfl
set_option maxRecDepth 100000 in
theorem i193_43 : INS 193 43 = some (0, 1, 2, 0, .null, []) := rfl
set_option maxRecDepth 100000 in
theorem i193_44 : INS 193 44 = some (3, 1, 2, 0, .null, []) := rfl
set_option maxRecDepth 100000 in
theorem i193_45 : INS 193 45 = some (2, 1, 0, 0, .int 1, []) := rfl
set_option maxRecDepth 100000 in
theorem i193_46 : INS 193 46 = some (3, 1, 0, 0, .null, []) := rfl
set_option maxRecDepth 100000 in
theorem i193_47 : INS 193 47 = some (18, 1, 20, 0, .null, []) := rfl
set_option maxRecDepth 100000 in
theorem i193_48 : INS 193 48 = some (3, 1, 0, 0, .null, []) := rfl
set_option maxRecDepth 100000 in
theorem i193_49 : INS 193 49 = some (3, 1, 0, 0, .null, []) := rfl
set_option maxRecDepth 100000 in
theorem i193_50 : INS 193 50 = some (1, 1, 1, 0, .null, []) := rfl
set_option maxRecDepth 100000 in
theorem i193_51 : INS 193 51 = some (12, 3, 80, 0, .null, []) := rfl
set_option maxRecDepth 100000 in
theorem i193_54 : INS 193 54 = some (0, 1, 0, 2, .null, []) := rfl
set_option maxRecDepth 100000 in
theorem i193_55 : INS 193 55 = some (16, 3, 11, 8, .null, []) := rfl
set_option maxRecDepth 100000 in
theorem i193_58 : INS 193 58 = some (0, 1, 2, 0, .null, []) := rfl
set_option maxRecDepth 100000 in
theorem i193_59 : INS 193 59 = some (18, 1, 20, 0, .null, []) := rfl
set_option maxRecDepth 100000 in
theorem i193_60 : INS 193 60 = some (9, 3, 80, 0, .null, []) := rfl
set_option maxRecDepth 100000 in
theorem i193_63 : INS 193 63 = some (0, 1, 1, 0, .null, []) := rfl
set_option maxRecDepth 100000 in
theorem i193_64 : INS 193 64 = some (0, 1, 0, 2, .null, []) := rfl
set_option maxRecDepth 100000 in
theorem i193_65 : INS 193 65 = some (16, 3, 11, 16, .null, []) := rfl
set_option maxRecDepth 100000 in
theorem i193_68 : INS 193 68 = some (0, 1, 2, 0, .null, []) := rfl
set_option maxRecDepth 100000 in
theorem i193_69 : INS 193 69 = some (18, 1, 20, 0, .null, []) := rfl
set_option maxRecDepth 100000 in
theorem i193_70 : INS 193 70 = some (9, 3, 77, 0, .null, []) := rfl
set_option maxRecDepth 100000 in
theorem i193_73 : INS 193 73 = some (2, 1, 0, 0, .int 1, []) := rfl
set_option maxRecDepth 100000 in
theorem i193_74 : INS 193 74 = some (12, 3, 78, 0, .null, []) := rfl
set_option maxRecDepth 100000 in
theorem i193_77 : INS 193 77 = some (2, 1, 0, 0, .int 0, []) := rfl
set_option maxRecDepth 100000 in
theorem i193_78 : INS 193 78 = some (3, 1, 0, 0, .null, []) := rfl
set_option maxRecDepth 100000 in
theorem i193_79 : INS 193 79 = some (1, 1, 1, 0, .null, []) := rfl
set_option maxRecDepth 100000 in
theorem i193_80 : INS 193 80 = some (15, 3, 2, 0, .int 1, []) := rfl
set_option maxRecDepth 100000 in
theorem i193_83 : INS 193 83 = some (12, 3, 4, 0, .null, []) := rfl
set_option maxRecDepth 100000 in
theorem i193_86 : INS 193 86 = some (0, 1, 1, 0, .null, []) := rfl
set_option maxRecDepth 100000 in
theorem i193_87 : INS 193 87 = some (27, 1, 0, 0, .null, []) := rfl
set_option maxRecDepth 100000 in
theorem i194_0 : INS 194 0 = some (2, 1, 0, 0, .int 0, []) := rfl
set_option maxRecDepth 100000 in
theorem i194_1 : INS 194 1 = some (1, 1, 2, 0, .null, []) := rfl
set_option maxRecDepth 100000 in
theorem i194_2 : INS 194 2 = some (0, 1, 1, 0, .null, []) := rfl
set_option maxRecDepth 100000 in
theorem i194_3 : INS 194 3 = some (13, 33, 110, 0, .null, [36, 70, 75, 80, 85]) := rfl
set_option maxRecDepth 100000 in
theorem i194_36 : INS 194 36 = some (2, 1, 0, 0, .int 0, []) := rfl
set_option maxRecDepth 100000 in
theorem i194_37 : INS 194 37 = some (1, 1, 3, 0, .null, []) := rfl
set_option maxRecDepth 100000 in
theorem i194_38 : INS 194 38 = some (0, 1, 3, 0, .null, []) := rfl
set_option maxRecDepth 100000 in
theorem i194_39 : INS 194 39 = some (2, 3, 0, 0, .int 144, []) := rfl
set_option maxRecDepth 100000 in
theorem i194_42 : INS 194 42 = some (10, 3, 68, 3, .null, []) := rfl
set_option maxRecDepth 100000 in
theorem i194_45 : INS 194 45 = some (0, 1, 2, 0, .null, []) := rfl
set_option maxRecDepth 100000 in
theorem i194_46 : INS 194 46 = some (0, 1, 0, 2, .null, []) := rfl
set_option maxRecDepth 100000 in
theorem i194_47 : INS 194 47 = some (16, 3, 11, 8, .null, []) := rfl
set_option maxRecDepth 100000 in
theorem i194_50 : INS 194 50 = some (0, 1, 3, 0, .null, []) := rfl
set_option maxRecDepth 100000 in
theorem i194_51 : INS 194 51 = some (18, 1, 20, 0, .null, []) := rfl
set_option maxRecDepth 100000 in
theorem i194_52 : INS 194 52 = some (9, 3, 59, 0, .null, []) := rfl
set_option maxRecDepth 100000 in
theorem i194_55 : INS 194 55 = some (2, 1, 0, 0, .int 1, []) := rfl
set_option maxRecDepth 100000 in
theorem i194_56 : INS 194 56 = some (12, 3, 60, 0, .null, []) := rfl
set_option maxRecDepth 100000 in
theorem i194_59 : INS 194 59 = some (2, 1, 0, 0, .int 0, []) := rfl
set_option maxRecDepth 100000 in
theorem i194_60 : INS 194 60 = some (3, 1, 0, 0, .null, []) := rfl
set_option maxRecDepth 100000 in
theorem i194_61 : INS 194 61 = some (1, 1, 2, 0, .null, []) := rfl
set_option maxRecDepth 100000 in
theorem i194_62 : INS 194 62 = some (15, 3, 3, 0, .int 1, []) := rfl
set_option maxRecDepth 100000 in
theorem i194_65 : INS 194 65 = some (12, 3, 38, 0, .null, []) := rfl
set_option maxRecDepth 100000 in
theorem i194_68 : INS 194 68 = some (0, 1, 2, 0, .null, []) := rfl
set_option maxRecDepth 100000 in
theorem i194_69 : INS 194 69 = some (27, 1, 0, 0, .null, []) := rfl
set_option maxRecDepth 100000 in
theorem i194_70 : INS 194 70 = some (0, 1, 0, 2, .null, []) := rfl
set_option maxRecDepth 100000 in
theorem i194_71 : INS 194 71 = some (16, 3, 11, 1, .null, []) := rfl
set_option maxRecDepth 100000 in
theorem i194_74 : INS 194 74 = some (27, 1, 0, 0, .null, []) := rfl
set_option maxRecDepth 100000 in
theorem i194_75 : INS 194 75 = some (0, 1, 0, 2, .null, []) := rfl
set_option maxRecDepth 100000 in
theorem i194_76 : INS 194 76 = some (16, 3, 11, 14, .null, []) := rfl
set_option maxRecDepth 100000 in
theorem i194_79 : INS 194 79 = some (27, 1, 0, 0, .null, []) := rfl
set_option maxRecDepth 100000 in
theorem i194_80 : INS 194 80 = some (0, 1, 0, 2, .null, []) := rfl
set_option maxRecDepth 100000 in
theorem i194_81 : INS 194 81 = some (24, 3, 193, 0, .null, []) := rfl
set_option maxRecDepth 100000 in
theorem i194_84 : INS 194 84 = some (27, 1, 0, 0, .null, []) := rfl
set_option maxRecDepth 100000 in
theorem i194_85 : INS 194 85 = some (2, 1, 0, 0, .int 0, []) := rfl
set_option maxRecDepth 100000 in
theorem i194_86 : INS 194 86 = some (1, 1, 3, 0, .null, []) := rfl
set_option maxRecDepth 100000 in
theorem i194_87 : INS 194 87 = some (0, 1, 3, 0, .null, []) := rfl
set_option maxRecDepth 100000 in
theorem i194_88 : INS 194 88 = some (2, 2, 0, 0, .int 20, []) := rfl
set_option maxRecDepth 100000 in
theorem i194_90 : INS 194 90 = some (10, 3, 108, 4, .null, []) := rfl
set_option maxRecDepth 100000 in
theorem i194_93 : INS 194 93 = some (0, 1, 2, 0, .null, []) := rfl
set_option maxRecDepth 100000 in
theorem i194_94 : INS 194 94 = some (0, 1, 0, 2, .null, []) := rfl
set_option maxRecDepth 100000 in
theorem i194_95 : INS 194 95 = some (16, 3, 11, 15, .null, []) := rfl
set_option maxRecDepth 100000 in
theorem i194_98 : INS 194 98 = some (0, 1, 3, 0, .null, []) := rfl
set_option maxRecDepth 100000 in
theorem i194_99 : INS 194 99 = some (18, 1, 20, 0, .null, []) := rfl
set_option maxRecDepth 100000 in
theorem i194_100 : INS 194 100 = some (3, 1, 0, 0, .null, []) := rfl
set_option maxRecDepth 100000 in
theorem i194_101 : INS 194 101 = some (1, 1, 2, 0, .null, []) := rfl
set_option maxRecDepth 100000 in
theorem i194_102 : INS 194 102 = some (15, 3, 3, 0, .int 1, []) := rfl
set_option maxRecDepth 100000 in
theorem i194_105 : INS 194 105 = some (12, 3, 87, 0, .null, []) := rfl
set_option maxRecDepth 100000 in
theorem i194_108 : INS 194 108 = some (0, 1, 2, 0, .null, []) := rfl
set_option maxRecDepth 100000 in
theorem i194_109 : INS 194 109 = some (27, 1, 0, 0, .null, []) := rfl
set_option maxRecDepth 100000 in
theorem i194_110 : INS 194 110 = some (0, 1, 1, 0, .null, []) := rfl
set_option maxRecDepth 100000 in
theorem i194_111 : INS 194 111 = some (2, 2, 0, 0, .int 11, []) := rfl
set_option maxRecDepth 100000 in
theorem i194_113 : INS 194 113 = some (2, 2, 0, 0, .int 17, []) := rfl
set_option maxRecDepth 100000 in
theorem i194_115 : INS 194 115 = some (24, 3, 123, 2, .null, []) := rfl
set_option maxRecDepth 100000 in
theorem i194_118 : INS 194 118 = some (9, 3, 133, 0, .null, []) := rfl
set_option maxRecDepth 100000 in
theorem i194_121 : INS 194 121 = some (0, 1, 0, 2, .null, []) := rfl
set_option maxRecDepth 100000 in
theorem i194_122 : INS 194 122 = some (16, 3, 11, 0, .null, []) := rfl
set_option maxRecDepth 100000 in
theorem i194_125 : INS 194 125 = some (0, 1, 1, 0, .null, []) := rfl
set_option maxRecDepth 100000 in
theorem i194_126 : INS 194 126 = some (2, 2, 0, 0, .int 10, []) := rfl
set_option maxRecDepth 100000 in
theorem i194_128 : INS 194 128 = some (3, 1, 1, 0, .null, []) := rfl
set_option maxRecDepth 100000 in
theorem i194_129 : INS 194 129 = some (18, 1, 20, 0, .null, []) := rfl
set_option maxRecDepth 100000 in
theorem i194_130 : INS 194 130 = some (12, 3, 134, 0, .null, []) := rfl
set_option maxRecDepth 100000 in
theorem i194_133 : INS 194 133 = some (2, 1, 0, 0, .int (-1), []) := rfl
set_option maxRecDepth 100000 in
theorem i194_134 : INS 194 134 = some (27, 1, 0, 0, .null, []) := rfl
set_option maxRecDepth 100000 in
theorem i198_0 : INS 198 0 = some (2, 1, 0, 0, .int 0, []) := rfl
set_option maxRecDepth 100000 in
theorem i198_1 : INS 198 1 = some (1, 1, 3, 0, .null, []) := rfl
set_option maxRecDepth 100000 in
theorem i198_2 : INS 198 2 = some (0, 1, 0, 2, .null, []) := rfl
set_option maxRecDepth 100000 in
theorem i198_3 : INS 198 3 = some (20, 1, 0, 0, .null, []) := rfl
set_option maxRecDepth 100000 in
theorem i198_4 : INS 198 4 = some (1, 2, 4, 0, .null, []) := rfl
set_option maxRecDepth 100000 in
theorem i198_6 : INS 198 6 = some (0, 1, 3, 0, .null, []) := rfl
set_option maxRecDepth 100000 in
theorem i198_7 : INS 198 7 = some (0, 2, 4, 0, .null, []) := rfl
set_option maxRecDepth 100000 in
theorem i198_9 : INS 198 9 = some (10, 3, 22, 3, .null, []) := rfl
set_option maxRecDepth 100000 in
theorem i198_12 : INS 198 12 = some (0, 1, 0, 2, .null, []) := rfl
set_option maxRecDepth 100000 in
theorem i198_13 : INS 198 13 = some (0, 1, 3, 0, .null, []) := rfl
set_option maxRecDepth 100000 in
theorem i198_14 : INS 198 14 = some (0, 1, 1, 1, .null, []) := rfl
set_option maxRecDepth 100000 in
theorem i198_15 : INS 198 15 = some (19, 1, 21, 0, .null, []) := rfl
set_option maxRecDepth 100000 in
theorem i198_16 : INS 198 16 = some (15, 3, 3, 0, .int 1, []) := rfl
set_option maxRecDepth 100000 in
theorem i198_19 : INS 198 19 = some (12, 3, 6, 0, .null, []) := rfl
set_option maxRecDepth 100000 in
theorem i198_22 : INS 198 22 = some (27, 1, 3, 0, .null, []) := rfl
set_option maxRecDepth 100000 in
theorem i199_0 : INS 199 0 = some (2, 1, 0, 0, .int 0, []) := rfl
set_option maxRecDepth 100000 in
theorem i199_1 : INS 199 1 = some (1, 1, 2, 0, .null, []) := rfl
set_option maxRecDepth 100000 in
theorem i199_2 : INS 199 2 = some (0, 1, 0, 2, .null, []) := rfl
set_option maxRecDepth 100000 in
theorem i199_3 : INS 199 3 = some (20, 1, 0, 0, .null, []) := rfl
set_option maxRecDepth 100000 in
theorem i199_4 : INS 199 4 = some (1, 1, 3, 0, .null, []) := rfl
set_option maxRecDepth 100000 in
theorem i199_5 : INS 199 5 = some (0, 1, 2, 0, .null, []) := rfl
set_option maxRecDepth 100000 in
theorem i199_6 : INS 199 6 = some (0, 1, 3, 0, .null, []) := rfl
set_option maxRecDepth 100000 in
theorem i199_7 : INS 199 7 = some (10, 3, 20, 3, .null, []) := rfl
set_option maxRecDepth 100000 in
theorem i199_10 : INS 199 10 = some (0, 1, 0, 2, .null, []) := rfl
set_option maxRecDepth 100000 in
theorem i199_11 : INS 199 11 = some (0, 1, 2, 0, .null, []) := rfl
set_option maxRecDepth 100000 in
theorem i199_12 : INS 199 12 = some (0, 1, 1, 0, .null, []) := rfl
set_option maxRecDepth 100000 in
theorem i199_13 : INS 199 13 = some (19, 1, 20, 0, .null, []) := rfl
set_option maxRecDepth 100000 in
theorem i199_14 : INS 199 14 = some (15, 3, 2, 0, .int 1, []) := rfl
set_option maxRecDepth 100000 in
theorem i199_17 : INS 199 17 = some (12, 3, 5, 0, .null, []) := rfl
set_option maxRecDepth 100000 in
theorem i199_20 : INS 199 20 = some (27, 1, 3, 0, .null, []) := rfl
set_option maxRecDepth 100000 in
theorem i200_18 : INS 200 18 = some (0, 1, 3, 0, .null, []) := rfl
set_option maxRecDepth 100000 in
theorem i200_19 : INS 200 19 = some (0, 1, 0, 2, .null, []) := rfl
set_option maxRecDepth 100000 in
theorem i200_20 : INS 200 20 = some (20, 1, 0, 0, .null, []) := rfl
set_option maxRecDepth 100000 in
theorem i200_21 : INS 200 21 = some (2, 2, 0, 0, .int 9, []) := rfl
set_option maxRecDepth 100000 in
theorem i200_23 : INS 200 23 = some (3, 1, 1, 0, .null, []) := rfl
set_option maxRecDepth 100000 in
theorem i200_24 : INS 200 24 = some (10, 3, 1103, 4, .null, []) := rfl
set_option maxRecDepth 100000 in
theorem i200_27 : INS 200 27 = some (0, 1, 0, 2, .null, []) := rfl
set_option maxRecDepth 100000 in
theorem i200_28 : INS 200 28 = some (0, 1, 3, 0, .null, []) := rfl
set_option maxRecDepth 100000 in
theorem i200_29 : INS 200 29 = some (18, 1, 20, 0, .null, []) := rfl
set_option maxRecDepth 100000 in
theorem i200_30 : INS 200 30 = some (2, 2, 0, 0, .int 31, []) := rfl
set_option maxRecDepth 100000 in
theorem i200_32 : INS 200 32 = some (3, 1, 5, 0, .null, []) := rfl
set_option maxRecDepth 100000 in
theorem i200_33 : INS 200 33 = some (13, 115, 1097, 0, .null, [148, 247, 310, 333, 356, 399, 472, 535, 569, 592, 615, 668, 711, 734, 757, 780, 803, 836, 869, 892, 935, 958, 1008, 1041, 1074]) := rfl
set_option maxRecDepth 100000 in
theorem i200_148 : INS 200 148 = some (0, 1, 1, 2, .null, []) := rfl
set_option maxRecDepth 100000 in
theorem i200_149 : INS 200 149 = some (0, 1, 0, 2, .null, []) := rfl
set_option maxRecDepth 100000 in
theorem i200_150 : INS 200 150 = some (0, 1, 3, 0, .null, []) := rfl
set_option maxRecDepth 100000 in
theorem i200_151 : INS 200 151 = some (2, 1, 0, 0, .int 1, []) := rfl
set_option maxRecDepth 100000 in
theorem i200_152 : INS 200 152 = some (3, 1, 0, 0, .null, []) := rfl
set_option maxRecDepth 100000 in
theorem i200_153 : INS 200 153 = some (18, 1, 20, 0, .null, []) := rfl
set_option maxRecDepth 100000 in
theorem i200_154 : INS 200 154 = some (0, 1, 0, 2, .null, []) := rfl
set_option maxRecDepth 100000 in
theorem i200_155 : INS 200 155 = some (0, 1, 3, 0, .null, []) := rfl
set_option maxRecDepth 100000 in
theorem i200_156 : INS 200 156 = some (2, 1, 0, 0, .int 2, []) := rfl
set_option maxRecDepth 100000 in
theorem i200_157 : INS 200 157 = some (3, 1, 0, 0, .null, []) := rfl
set_option maxRecDepth 100000 in
theorem i200_158 : INS 200 158 = some (18, 1, 20, 0, .null, []) := rfl
set_option maxRecDepth 100000 in
theorem i200_159 : INS 200 159 = some (0, 1, 0, 2, .null, []) := rfl
set_option maxRecDepth 100000 in
theorem i200_160 : INS 200 160 = some (0, 1, 3, 0, .null, []) := rfl
set_option maxRecDepth 100000 in
theorem i200_161 : INS 200 161 = some (2, 1, 0, 0, .int 3, []) := rfl
set_option maxRecDepth 100000 in
theorem i200_162 : INS 200 162 = some (3, 1, 0, 0, .null, []) := rfl
set_option maxRecDepth 100000 in
theorem i200_163 : INS 200 163 = some (18, 1, 20, 0, .null, []) := rfl
set_option maxRecDepth 100000 in
theorem i200_164 : INS 200 164 = some (0, 1, 0, 2, .null, []) := rfl
set_option maxRecDepth 100000 in
theorem i200_165 : INS 200 165 = some (0, 1, 3, 0, .null, []) := rfl
set_option maxRecDepth 100000 in
theorem i200_166 : INS 200 166 = some (2, 1, 0, 0, .int 4, []) := rfl
set_option maxRecDepth 100000 in
theorem i200_167 : INS 200 167 = some (3, 1, 0, 0, .null, []) := rfl
set_option maxRecDepth 100000 in
theorem i200_168 : INS 200 168 = some (18, 1, 20, 0, .null, []) := rfl
set_option maxRecDepth 100000 in
theorem i200_169 : INS 200 169 = some (0, 1, 0, 2, .null, []) := rfl
set_option maxRecDepth 100000 in
theorem i200_170 : INS 200 170 = some (0, 1, 3, 0, .null, []) := rfl
set_option maxRecDepth 100000 in
theorem i200_171 : INS 200 171 = some (2, 1, 0, 0, .int 5, []) := rfl
set_option maxRecDepth 100000 in
theorem i200_172 : INS 200 172 = some (3, 1, 0, 0, .null, []) := rfl
set_option maxRecDepth 100000 in
theorem i200_173 : INS 200 173 = some (18, 1, 20, 0, .null, []) := rfl
set_option maxRecDepth 100000 in
theorem i200_174 : INS 200 174 = some (0, 1, 0, 2, .null, []) := rfl
set_option maxRecDepth 100000 in
theorem i200_175 : INS 200 175 = some (0, 1, 3, 0, .null, []) := rfl
set_option maxRecDepth 100000 in
theorem i200_176 : INS 200 176 = some (2, 2, 0, 0, .int 6, []) := rfl
set_option maxRecDepth 100000 in
theorem i200_178 : INS 200 178 = some (3, 1, 0, 0, .null, []) := rfl
set_option maxRecDepth 100000 in
theorem i200_179 : INS 200 179 = some (18, 1, 20, 0, .null, []) := rfl
set_option maxRecDepth 100000 in
theorem i200_180 : INS 200 180 = some (0, 1, 0, 2, .null, []) := rfl
set_option maxRecDepth 100000 in
theorem i200_181 : INS 200 181 = some (0, 1, 3, 0, .null, []) := rfl
set_option maxRecDepth 100000 in
theorem i200_182 : INS 200 182 = some (2, 2, 0, 0, .int 7, []) := rfl
set_option maxRecDepth 100000 in
theorem i200_184 : INS 200 184 = some (3, 1, 0, 0, .null, []) := rfl
set_option maxRecDepth 100000 in
theorem i200_185 : INS 200 185 = some (18, 1, 20, 0, .null, []) := rfl
set_option maxRecDepth 100000 in
theorem i200_186 : INS 200 186 = some (0, 1, 0, 2, .null, []) := rfl
set_option maxRecDepth 100000 in
theorem i200_187 : INS 200 187 = some (0, 1, 3, 0, .null, []) := rfl
set_option maxRecDepth 100000 in
theorem i200_188 : INS 200 188 = some (2, 2, 0, 0, .int 8, []) := rfl
set_option maxRecDepth 100000 in
theorem i200_190 : INS 200 190 = some (3, 1, 0, 0, .null, []) := rfl
set_option maxRecDepth 100000 in
theorem i200_191 : INS 200 191 = some (18, 1, 20, 0, .null, []) := rfl
set_option maxRecDepth 100000 in
theorem i200_192 : INS 200 192 = some (24, 3, 84, 0, .null, []) := rfl
set_option maxRecDepth 100000 in
theorem i200_195 : INS 200 195 = some (0, 1, 2, 2, .null, []) := rfl
set_option maxRecDepth 100000 in
theorem i200_196 : INS 200 196 = some (0, 1, 0, 2, .null, []) := rfl
set_option maxRecDepth 100000 in
theorem i200_197 : INS 200 197 = some (0, 1, 3, 0, .null, []) := rfl
set_option maxRecDepth 100000 in
theorem i200_198 : INS 200 198 = some (2, 1, 0, 0, .int 1, []) := rfl
set_option maxRecDepth 100000 in
theorem i200_199 : INS 200 199 = some (3, 1, 0, 0, .null, []) := rfl
set_option maxRecDepth 100000 in
theorem i200_200 : INS 200 200 = some (18, 1, 20, 0, .null, []) := rfl
set_option maxRecDepth 100000 in
theorem i200_201 : INS 200 201 = some (0, 1, 0, 2, .null, []) := rfl
set_option maxRecDepth 100000 in
theorem i200_202 : INS 200 202 = some (0, 1, 3, 0, .null, []) := rfl
set_option maxRecDepth 100000 in
theorem i200_203 : INS 200 203 = some (2, 1, 0, 0, .int 2, []) := rfl
set_option maxRecDepth 100000 in
theorem i200_204 : INS 200 204 = some (3, 1, 0, 0, .null, []) := rfl
set_option maxRecDepth 100000 in
theorem i200_205 : INS 200 205 = some (18, 1, 20, 0, .null, []) := rfl
set_option maxRecDepth 100000 in
theorem i200_206 : INS 200 206 = some (0, 1, 0, 2, .null, []) := rfl
set_option maxRecDepth 100000 in
theorem i200_207 : INS 200 207 = some (0, 1, 3, 0, .null, []) := rfl
set_option maxRecDepth 100000 in
theorem i200_208 : INS 200 208 = some (2, 1, 0, 0, .int 3, []) := rfl
set_option maxRecDepth 100000 in
theorem i200_209 : INS 200 209 = some (3, 1, 0, 0, .null, []) := rfl
set_option maxRecDepth 100000 in
theorem i200_210 : INS 200 210 = some (18, 1, 20, 0, .null, []) := rfl
set_option maxRecDepth 100000 in
theorem i200_211 : INS 200 211 = some (0, 1, 0, 2, .null, []) := rfl
set_option maxRecDepth 100000 in
theorem i200_212 : INS 200 212 = some (0, 1, 3, 0, .null, []) := rfl
set_option maxRecDepth 100000 in
theorem i200_213 : INS 200 213 = some (2, 1, 0, 0, .int 4, []) := rfl
set_option maxRecDepth 100000 in
theorem i200_214 : INS 200 214 = some (3, 1, 0, 0, .null, []) := rfl
set_option maxRecDepth 100000 in
theorem i200_215 : INS 200 215 = some (18, 1, 20, 0, .null, []) := rfl
set_option maxRecDepth 100000 in
theorem i200_216 : INS 200 216 = some (0, 1, 0, 2, .null, []) := rfl
set_option maxRecDepth 100000 in
theorem i200_217 : INS 200 217 = some (0, 1, 3, 0, .null, []) := rfl
set_option maxRecDepth 100000 in
theorem i200_218 : INS 200 218 = some (2, 1, 0, 0, .int 5, []) := rfl
set_option maxRecDepth 100000 in
theorem i200_219 : INS 200 219 = some (3, 1, 0, 0, .null, []) := rfl
set_option maxRecDepth 100000 in
theorem i200_220 : INS 200 220 = some (18, 1, 20, 0, .null, []) := rfl
set_option maxRecDepth 100000 in
theorem i200_221 : INS 200 221 = some (0, 1, 0, 2, .null, []) := rfl
set_option maxRecDepth 100000 in
theorem i200_222 : INS 200 222 = some (0, 1, 3, 0, .null, []) := rfl
set_option maxRecDepth 100000 in
theorem i200_223 : INS 200 223 = some (2, 2, 0, 0, .int 6, []) := rfl
set_option maxRecDepth 100000 in
theorem i200_225 : INS 200 225 = some (3, 1, 0, 0, .null, []) := rfl
set_option maxRecDepth 100000 in
theorem i200_226 : INS 200 226 = some (18, 1, 20, 0, .null, []) := rfl
set_option maxRecDepth 100000 in
theorem i200_227 : INS 200 227 = some (0, 1, 0, 2, .null, []) := rfl
set_option maxRecDepth 100000 in
theorem i200_228 : INS 200 228 = some (0, 1, 3, 0, .null, []) := rfl
set_option maxRecDepth 100000 in
theorem i200_229 : INS 200 229 = some (2, 2, 0, 0, .int 7, []) := rfl
set_option maxRecDepth 100000 in
theorem i200_231 : INS 200 231 = some (3, 1, 0, 0, .null, []) := rfl
set_option maxRecDepth 100000 in
theorem i200_232 : INS 200 232 = some (18, 1, 20, 0, .null, []) := rfl
set_option maxRecDepth 100000 in
theorem i200_233 : INS 200 233 = some (0, 1, 0, 2, .null, []) := rfl
set_option maxRecDepth 100000 in
theorem i200_234 : INS 200 234 = some (0, 1, 3, 0, .null, []) := rfl
set_option maxRecDepth 100000 in
theorem i200_235 : INS 200 235 = some (2, 2, 0, 0, .int 8, []) := rfl
set_option maxRecDepth 100000 in
theorem i200_237 : INS 200 237 = some (3, 1, 0, 0, .null, []) := rfl
set_option maxRecDepth 100000 in
theorem i200_238 : INS 200 238 = some (18, 1, 20, 0, .null, []) := rfl
set_option maxRecDepth 100000 in
theorem i200_239 : INS 200 239 = some (24, 3, 130, 0, .null, []) := rfl
set_option maxRecDepth 100000 in
theorem i200_242 : INS 200 242 = some (10, 3, 1097, 0, .null, []) := rfl
set_option maxRecDepth 100000 in
theorem i200_245 : INS 200 245 = some (2, 1, 0, 0, .int 0, []) := rfl
set_option maxRecDepth 100000 in
theorem i200_246 : INS 200 246 = some (27, 1, 0, 0, .null, []) := rfl
set_option maxRecDepth 100000 in
theorem i200_247 : INS 200 247 = some (0, 1, 1, 2, .null, []) := rfl
set_option maxRecDepth 100000 in
theorem i200_248 : INS 200 248 = some (0, 1, 0, 2, .null, []) := rfl
set_option maxRecDepth 100000 in
theorem i200_249 : INS 200 249 = some (0, 1, 3, 0, .null, []) := rfl
set_option maxRecDepth 100000 in
theorem i200_250 : INS 200 250 = some (2, 1, 0, 0, .int 1, []) := rfl
set_option maxRecDepth 100000 in
theorem i200_251 : INS 200 251 = some (3, 1, 0, 0, .null, []) := rfl
set_option maxRecDepth 100000 in
theorem i200_252 : INS 200 252 = some (18, 1, 20, 0, .null, []) := rfl
set_option maxRecDepth 100000 in
theorem i200_253 : INS 200 253 = some (0, 1, 0, 2, .null, []) := rfl
set_option maxRecDepth 100000 in
theorem i200_254 : INS 200 254 = some (0, 1, 3, 0, .null, []) := rfl
set_option maxRecDepth 100000 in
theorem i200_255 : INS 200 255 = some (2, 1, 0, 0, .int 2, []) := rfl
set_option maxRecDepth 100000 in
theorem i200_256 : INS 200 256 = some (3, 1, 0, 0, .null, []) := rfl
set_option maxRecDepth 100000 in
theorem i200_257 : INS 200 257 = some (18, 1, 20, 0, .null, []) := rfl
set_option maxRecDepth 100000 in
theorem i200_258 : INS 200 258 = some (0, 1, 0, 2, .null, []) := rfl
set_option maxRecDepth 100000 in
theorem i200_259 : INS 200 259 = some (0, 1, 3, 0, .null, []) := rfl
set_option maxRecDepth 100000 in
theorem i200_260 : INS 200 260 = some (2, 1, 0, 0, .int 3, []) := rfl
set_option maxRecDepth 100000 in
theorem i200_261 : INS 200 261 = some (3, 1, 0, 0, .null, []) := rfl
set_option maxRecDepth 100000 in
theorem i200_262 : INS 200 262 = some (18, 1, 20, 0, .null, []) := rfl
set_option maxRecDepth 100000 in
theorem i200_263 : INS 200 263 = some (0, 1, 0, 2, .null, []) := rfl
set_option maxRecDepth 100000 in
theorem i200_264 : INS 200 264 = some (0, 1, 3, 0, .null, []) := rfl
set_option maxRecDepth 100000 in
theorem i200_265 : INS 200 265 = some (2, 1, 0, 0, .int 4, []) := rfl
set_option maxRecDepth 100000 in
theorem i200_266 : INS 200 266 = some (3, 1, 0, 0, .null, []) := rfl
set_option maxRecDepth 100000 in
theorem i200_267 : INS 200 267 = some (18, 1, 20, 0, .null, []) := rfl
set_option maxRecDepth 100000 in
theorem i200_268 : INS 200 268 = some (0, 1, 0, 2, .null, []) := rfl
set_option maxRecDepth 100000 in
theorem i200_269 : INS 200 269 = some (0, 1, 3, 0, .null, []) := rfl
set_option maxRecDepth 100000 in
theorem i200_270 : INS 200 270 = some (2, 1, 0, 0, .int 5, []) := rfl
set_option maxRecDepth 100000 in
theorem i200_271 : INS 200 271 = some (3, 1, 0, 0, .null, []) := rfl
set_option maxRecDepth 100000 in
theorem i200_272 : INS 200 272 = some (18, 1, 20, 0, .null, []) := rfl
set_option maxRecDepth 100000 in
theorem i200_273 : INS 200 273 = some (24, 3, 85, 0, .null, []) := rfl
set_option maxRecDepth 100000 in
theorem i200_276 : INS 200 276 = some (0, 1, 2, 2, .null, []) := rfl
set_option maxRecDepth 100000 in
theorem i200_277 : INS 200 277 = some (0, 1, 0, 2, .null, []) := rfl
set_option maxRecDepth 100000 in
theorem i200_278 : INS 200 278 = some (0, 1, 3, 0, .null, []) := rfl
set_option maxRecDepth 100000 in
theorem i200_279 : INS 200 279 = some (2, 1, 0, 0, .int 1, []) := rfl
set_option maxRecDepth 100000 in
theorem i200_280 : INS 200 280 = some (3, 1, 0, 0, .null, []) := rfl
set_option maxRecDepth 100000 in
theorem i200_281 : INS 200 281 = some (18, 1, 20, 0, .null, []) := rfl
set_option maxRecDepth 100000 in
theorem i200_282 : INS 200 282 = some (0, 1, 0, 2, .null, []) := rfl
set_option maxRecDepth 100000 in
theorem i200_283 : INS 200 283 = some (0, 1, 3, 0, .null, []) := rfl
set_option maxRecDepth 100000 in
theorem i200_284 : INS 200 284 = some (2, 1, 0, 0, .int 2, []) := rfl
set_option maxRecDepth 100000 in
theorem i200_285 : INS 200 285 = some (3, 1, 0, 0, .null, []) := rfl
set_option maxRecDepth 100000 in
theorem i200_286 : INS 200 286 = some (18, 1, 20, 0, .null, []) := rfl
set_option maxRecDepth 100000 in
theorem i200_287 : INS 200 287 = some (0, 1, 0, 2, .null, []) := rfl
set_option maxRecDepth 100000 in
theorem i200_288 : INS 200 288 = some (0, 1, 3, 0, .null, []) := rfl
set_option maxRecDepth 100000 in
theorem i200_289 : INS 200 289 = some (2, 1, 0, 0, .int 3, []) := rfl
set_option maxRecDepth 100000 in
theorem i200_290 : INS 200 290 = some (3, 1, 0, 0, .null, []) := rfl
set_option maxRecDepth 100000 in
theorem i200_291 : INS 200 291 = some (18, 1, 20, 0, .null, []) := rfl
set_option maxRecDepth 100000 in
theorem i200_292 : INS 200 292 = some (0, 1, 0, 2, .null, []) := rfl
set_option maxRecDepth 100000 in
theorem i200_293 : INS 200 293 = some (0, 1, 3, 0, .null, []) := rfl
set_option maxRecDepth 100000 in
theorem i200_294 : INS 200 294 = some (2, 1, 0, 0, .int 4, []) := rfl
set_option maxRecDepth 100000 in
theorem i200_295 : INS 200 295 = some (3, 1, 0, 0, .null, []) := rfl
set_option maxRecDepth 100000 in
theorem i200_296 : INS 200 296 = some (18, 1, 20, 0, .null, []) := rfl
set_option maxRecDepth 100000 in
theorem i200_297 : INS 200 297 = some (0, 1, 0, 2, .null, []) := rfl
set_option maxRecDepth 100000 in
theorem i200_298 : INS 200 298 = some (0, 1, 3, 0, .null, []) := rfl
set_option maxRecDepth 100000 in
theorem i200_299 : INS 200 299 = some (2, 1, 0, 0, .int 5, []) := rfl
set_option maxRecDepth 100000 in
theorem i200_300 : INS 200 300 = some (3, 1, 0, 0, .null, []) := rfl
set_option maxRecDepth 100000 in
theorem i200_301 : INS 200 301 = some (18, 1, 20, 0, .null, []) := rfl
set_option maxRecDepth 100000 in
theorem i200_302 : INS 200 302 = some (24, 3, 134, 0, .null, []) := rfl
set_option maxRecDepth 100000 in
theorem i200_305 : INS 200 305 = some (10, 3, 1097, 0, .null, []) := rfl
set_option maxRecDepth 100000 in
theorem i200_308 : INS 200 308 = some (2, 1, 0, 0, .int 0, []) := rfl
set_option maxRecDepth 100000 in
theorem i200_309 : INS 200 309 = some (27, 1, 0, 0, .null, []) := rfl
set_option maxRecDepth 100000 in
theorem i200_310 : INS 200 310 = some (0, 1, 1, 2, .null, []) := rfl
set_option maxRecDepth 100000 in
theorem i200_311 : INS 200 311 = some (0, 1, 0, 2, .null, []) := rfl
set_option maxRecDepth 100000 in
theorem i200_312 : INS 200 312 = some (0, 1, 3, 0, .null, []) := rfl
set_option maxRecDepth 100000 in
theorem i200_313 : INS 200 313 = some (2, 1, 0, 0, .int 1, []) := rfl
set_option maxRecDepth 100000 in
theorem i200_314 : INS 200 314 = some (3, 1, 0, 0, .null, []) := rfl
set_option maxRecDepth 100000 in
theorem i200_315 : INS 200 315 = some (18, 1, 20, 0, .null, []) := rfl
set_option maxRecDepth 100000 in
theorem i200_316 : INS 200 316 = some (24, 3, 86, 0, .null, []) := rfl
set_option maxRecDepth 100000 in
theorem i200_319 : INS 200 319 = some (0, 1, 2, 2, .null, []) := rfl
set_option maxRecDepth 100000 in
theorem i200_320 : INS 200 320 = some (0, 1, 0, 2, .null, []) := rfl
set_option maxRecDepth 100000 in
theorem i200_321 : INS 200 321 = some (0, 1, 3, 0, .null, []) := rfl
set_option maxRecDepth 100000 in
theorem i200_322 : INS 200 322 = some (2, 1, 0, 0, .int 1, []) := rfl
set_option maxRecDepth 100000 in
theorem i200_323 : INS 200 323 = some (3, 1, 0, 0, .null, []) := rfl
set_option maxRecDepth 100000 in
theorem i200_324 : INS 200 324 = some (18, 1, 20, 0, .null, []) := rfl
set_option maxRecDepth 100000 in
theorem i200_325 : INS 200 325 = some (24, 3, 147, 0, .null, []) := rfl
set_option maxRecDepth 100000 in
theorem i200_328 : INS 200 328 = some (10, 3, 1097, 0, .null, []) := rfl
set_option maxRecDepth 100000 in
theorem i200_331 : INS 200 331 = some (2, 1, 0, 0, .int 0, []) := rfl
set_option maxRecDepth 100000 in
theorem i200_332 : INS 200 332 = some (27, 1, 0, 0, .null, []) := rfl
set_option maxRecDepth 100000 in
theorem i200_333 : INS 200 333 = some (0, 1, 1, 2, .null, []) := rfl
set_option maxRecDepth 100000 in
theorem i200_334 : INS 200 334 = some (0, 1, 0, 2, .null, []) := rfl
set_option maxRecDepth 100000 in
theorem i200_335 : INS 200 335 = some (0, 1, 3, 0, .null, []) := rfl
set_option maxRecDepth 100000 in
theorem i200_336 : INS 200 336 = some (2, 1, 0, 0, .int 1, []) := rfl
set_option maxRecDepth 100000 in
theorem i200_337 : INS 200 337 = some (3, 1, 0, 0, .null, []) := rfl
set_option maxRecDepth 100000 in
theorem i200_338 : INS 200 338 = some (18, 1, 20, 0, .null, []) := rfl
set_option maxRecDepth 100000 in
theorem i200_339 : INS 200 339 = some (24, 3, 87, 0, .null, []) := rfl
set_option maxRecDepth 100000 in
theorem i200_342 : INS 200 342 = some (0, 1, 2, 2, .null, []) := rfl
set_option maxRecDepth 100000 in
theorem i200_343 : INS 200 343 = some (0, 1, 0, 2, .null, []) := rfl
set_option maxRecDepth 100000 in
theorem i200_344 : INS 200 344 = some (0, 1, 3, 0, .null, []) := rfl
set_option maxRecDepth 100000 in
theorem i200_345 : INS 200 345 = some (2, 1, 0, 0, .int 1, []) := rfl
set_option maxRecDepth 100000 in
theorem i200_346 : INS 200 346 = some (3, 1, 0, 0, .null, []) := rfl
set_option maxRecDepth 100000 in
theorem i200_347 : INS 200 347 = some (18, 1, 20, 0, .null, []) := rfl
set_option maxRecDepth 100000 in
theorem i200_348 : INS 200 348 = some (24, 3, 135, 0, .null, []) := rfl
set_option maxRecDepth 100000 in
theorem i200_351 : INS 200 351 = some (10, 3, 1097, 0, .null, []) := rfl
set_option maxRecDepth 100000 in
theorem i200_354 : INS 200 354 = some (2, 1, 0, 0, .int 0, []) := rfl
set_option maxRecDepth 100000 in
theorem i200_355 : INS 200 355 = some (27, 1, 0, 0, .null, []) := rfl
set_option maxRecDepth 100000 in
theorem i200_356 : INS 200 356 = some (0, 1, 1, 2, .null, []) := rfl
set_option maxRecDepth 100000 in
theorem i200_357 : INS 200 357 = some (0, 1, 0, 2, .null, []) := rfl
set_option maxRecDepth 100000 in
theorem i200_358 : INS 200 358 = some (0, 1, 3, 0, .null, []) := rfl
set_option maxRecDepth 100000 in
theorem i200_359 : INS 200 359 = some (2, 1, 0, 0, .int 1, []) := rfl
set_option maxRecDepth 100000 in
theorem i200_360 : INS 200 360 = some (3, 1, 0, 0, .null, []) := rfl
set_option maxRecDepth 100000 in
theorem i200_361 : INS 200 361 = some (18, 1, 20, 0, .null, []) := rfl
set_option maxRecDepth 100000 in
theorem i200_362 : INS 200 362 = some (0, 1, 0, 2, .null, []) := rfl
set_option maxRecDepth 100000 in
theorem i200_363 : INS 200 363 = some (0, 1, 3, 0, .null, []) := rfl
set_option maxRecDepth 100000 in
theorem i200_364 : INS 200 364 = some (2, 1, 0, 0, .int 2, []) := rfl
set_option maxRecDepth 100000 in
theorem i200_365 : INS 200 365 = some (3, 1, 0, 0, .null, []) := rfl
set_option maxRecDepth 100000 in
theorem i200_366 : INS 200 366 = some (18, 1, 20, 0, .null, []) := rfl
set_option maxRecDepth 100000 in
theorem i200_367 : INS 200 367 = some (0, 1, 0, 2, .null, []) := rfl
set_option maxRecDepth 100000 in
theorem i200_368 : INS 200 368 = some (0, 1, 3, 0, .null, []) := rfl
set_option maxRecDepth 100000 in
theorem i200_369 : INS 200 369 = some (2, 1, 0, 0, .int 3, []) := rfl
set_option maxRecDepth 100000 in
theorem i200_370 : INS 200 370 = some (3, 1, 0, 0, .null, []) := rfl
set_option maxRecDepth 100000 in
theorem i200_371 : INS 200 371 = some (18, 1, 20, 0, .null, []) := rfl
set_option maxRecDepth 100000 in
theorem i200_372 : INS 200 372 = some (24, 3, 88, 0, .null, []) := rfl
set_option maxRecDepth 100000 in
theorem i200_375 : INS 200 375 = some (0, 1, 2, 2, .null, []) := rfl
set_option maxRecDepth 100000 in
theorem i200_376 : INS 200 376 = some (0, 1, 0, 2, .null, []) := rfl
set_option maxRecDepth 100000 in
theorem i200_377 : INS 200 377 = some (0, 1, 3, 0, .null, []) := rfl
set_option maxRecDepth 100000 in
theorem i200_378 : INS 200 378 = some (2, 1, 0, 0, .int 1, []) := rfl
set_option maxRecDepth 100000 in
theorem i200_379 : INS 200 379 = some (3, 1, 0, 0, .null, []) := rfl
set_option maxRecDepth 100000 in
theorem i200_380 : INS 200 380 = some (18, 1, 20, 0, .null, []) := rfl
set_option maxRecDepth 100000 in
theorem i200_381 : INS 200 381 = some (0, 1, 0, 2, .null, []) := rfl
set_option maxRecDepth 100000 in
theorem i200_382 : INS 200 382 = some (0, 1, 3, 0, .null, []) := rfl
set_option maxRecDepth 100000 in
theorem i200_383 : INS 200 383 = some (2, 1, 0, 0, .int 2, []) := rfl
set_option maxRecDepth 100000 in
theorem i200_384 : INS 200 384 = some (3, 1, 0, 0, .null, []) := rfl
set_option maxRecDepth 100000 in
theorem i200_385 : INS 200 385 = some (18, 1, 20, 0, .null, []) := rfl
set_option maxRecDepth 100000 in
theorem i200_386 : INS 200 386 = some (0, 1, 0, 2, .null, []) := rfl
set_option maxRecDepth 100000 in
theorem i200_387 : INS 200 387 = some (0, 1, 3, 0, .null, []) := rfl
set_option maxRecDepth 100000 in
theorem i200_388 : INS 200 388 = some (2, 1, 0, 0, .int 3, []) := rfl
set_option maxRecDepth 100000 in
theorem i200_389 : INS 200 389 = some (3, 1, 0, 0, .null, []) := rfl
set_option maxRecDepth 100000 in
theorem i200_390 : INS 200 390 = some (18, 1, 20, 0, .null, []) := rfl
set_option maxRecDepth 100000 in
theorem i200_391 : INS 200 391 = some (24, 3, 139, 0, .null, []) := rfl
set_option maxRecDepth 100000 in
theorem i200_394 : INS 200 394 = some (10, 3, 1097, 0, .null, []) := rfl
set_option maxRecDepth 100000 in
theorem i200_397 : INS 200 397 = some (2, 1, 0, 0, .int 0, []) := rfl
set_option maxRecDepth 100000 in
theorem i200_398 : INS 200 398 = some (27, 1, 0, 0, .null, []) := rfl
set_option maxRecDepth 100000 in
theorem i200_399 : INS 200 399 = some (0, 1, 1, 2, .null, []) := rfl
set_option maxRecDepth 100000 in
theorem i200_400 : INS 200 400 = some (0, 1, 0, 2, .null, []) := rfl
set_option maxRecDepth 100000 in
theorem i200_401 : INS 200 401 = some (0, 1, 3, 0, .null, []) := rfl
set_option maxRecDepth 100000 in
theorem i200_402 : INS 200 402 = some (2, 1, 0, 0, .int 1, []) := rfl
set_option maxRecDepth 100000 in
theorem i200_403 : INS 200 403 = some (3, 1, 0, 0, .null, []) := rfl
set_option maxRecDepth 100000 in
theorem i200_404 : INS 200 404 = some (18, 1, 20, 0, .null, []) := rfl
set_option maxRecDepth 100000 in
theorem i200_405 : INS 200 405 = some (0, 1, 0, 2, .null, []) := rfl
set_option maxRecDepth 100000 in
theorem i200_406 : INS 200 406 = some (0, 1, 3, 0, .null, []) := rfl
set_option maxRecDepth 100000 in
theorem i200_407 : INS 200 407 = some (2, 1, 0, 0, .int 2, []) := rfl
set_option maxRecDepth 100000 in
theorem i200_408 : INS 200 408 = some (3, 1, 0, 0, .null, []) := rfl
set_option maxRecDepth 100000 in
theorem i200_409 : INS 200 409 = some (18, 1, 20, 0, .null, []) := rfl
set_option maxRecDepth 100000 in
theorem i200_410 : INS 200 410 = some (0, 1, 0, 2, .null, []) := rfl
set_option maxRecDepth 100000 in
theorem i200_411 : INS 200 411 = some (0, 1, 3, 0, .null, []) := rfl
set_option maxRecDepth 100000 in
theorem i200_412 : INS 200 412 = some (2, 1, 0, 0, .int 3, []) := rfl
set_option maxRecDepth 100000 in
theorem i200_413 : INS 200 413 = some (3, 1, 0, 0, .null, []) := rfl
set_option maxRecDepth 100000 in
theorem i200_414 : INS 200 414 = some (18, 1, 20, 0, .null, []) := rfl
set_option maxRecDepth 100000 in
theorem i200_415 : INS 200 415 = some (6, 1, 1, 0, .null, []) := rfl
set_option maxRecDepth 100000 in
theorem i200_416 : INS 200 416 = some (2, 2, 0, 0, .int 32, []) := rfl
set_option maxRecDepth 100000 in
theorem i200_418 : INS 200 418 = some (5, 1, 0, 0, .null, []) := rfl
set_option maxRecDepth 100000 in
theorem i200_419 : INS 200 419 = some (0, 1, 0, 2, .null, []) := rfl
set_option maxRecDepth 100000 in
theorem i200_420 : INS 200 420 = some (0, 1, 3, 0, .null, []) := rfl
set_option maxRecDepth 100000 in
theorem i200_421 : INS 200 421 = some (2, 1, 0, 0, .int 4, []) := rfl
set_option maxRecDepth 100000 in
theorem i200_422 : INS 200 422 = some (3, 1, 0, 0, .null, []) := rfl
set_option maxRecDepth 100000 in
theorem i200_423 : INS 200 423 = some (18, 1, 20, 0, .null, []) := rfl
set_option maxRecDepth 100000 in
theorem i200_424 : INS 200 424 = some (6, 1, 1, 0, .null, []) := rfl
set_option maxRecDepth 100000 in
theorem i200_425 : INS 200 425 = some (2, 3, 1, 0, .long 4294967295, []) := rfl
set_option maxRecDepth 100000 in
theorem i200_428 : INS 200 428 = some (4, 1, 5, 0, .null, []) := rfl
set_option maxRecDepth 100000 in
theorem i200_429 : INS 200 429 = some (4, 1, 6, 0, .null, []) := rfl
set_option maxRecDepth 100000 in
theorem i200_430 : INS 200 430 = some (24, 3, 89, 0, .null, []) := rfl
set_option maxRecDepth 100000 in
theorem i200_433 : INS 200 433 = some (0, 1, 2, 2, .null, []) := rfl
set_option maxRecDepth 100000 in
theorem i200_434 : INS 200 434 = some (0, 1, 0, 2, .null, []) := rfl
set_option maxRecDepth 100000 in
theorem i200_435 : INS 200 435 = some (0, 1, 3, 0, .null, []) := rfl
set_option maxRecDepth 100000 in
theorem i200_436 : INS 200 436 = some (2, 1, 0, 0, .int 1, []) := rfl
set_option maxRecDepth 100000 in
theorem i200_437 : INS 200 437 = some (3, 1, 0, 0, .null, []) := rfl
set_option maxRecDepth 100000 in
theorem i200_438 : INS 200 438 = some (18, 1, 20, 0, .null, []) := rfl
set_option maxRecDepth 100000 in
theorem i200_439 : INS 200 439 = some (0, 1, 0, 2, .null, []) := rfl
set_option maxRecDepth 100000 in
theorem i200_440 : INS 200 440 = some (0, 1, 3, 0, .null, []) := rfl
set_option maxRecDepth 100000 in
theorem i200_441 : INS 200 441 = some (2, 1, 0, 0, .int 2, []) := rfl
set_option maxRecDepth 100000 in
theorem i200_442 : INS 200 442 = some (3, 1, 0, 0, .null, []) := rfl
set_option maxRecDepth 100000 in
theorem i200_443 : INS 200 443 = some (18, 1, 20, 0, .null, []) := rfl
set_option maxRecDepth 100000 in
theorem i200_444 : INS 200 444 = some (0, 1, 0, 2, .null, []) := rfl
set_option maxRecDepth 100000 in
theorem i200_445 : INS 200 445 = some (0, 1, 3, 0, .null, []) := rfl
set_option maxRecDepth 100000 in
theorem i200_446 : INS 200 446 = some (2, 1, 0, 0, .int 3, []) := rfl
set_option maxRecDepth 100000 in
theorem i200_447 : INS 200 447 = some (3, 1, 0, 0, .null, []) := rfl
set_option maxRecDepth 100000 in
theorem i200_448 : INS 200 448 = some (18, 1, 20, 0, .null, []) := rfl
set_option maxRecDepth 100000 in
theorem i200_449 : INS 200 449 = some (6, 1, 1, 0, .null, []) := rfl
set_option maxRecDepth 100000 in
theorem i200_450 : INS 200 450 = some (2, 2, 0, 0, .int 32, []) := rfl
set_option maxRecDepth 100000 in
theorem i200_452 : INS 200 452 = some (5, 1, 0, 0, .null, []) := rfl
set_option maxRecDepth 100000 in
theorem i200_453 : INS 200 453 = some (0, 1, 0, 2, .null, []) := rfl
set_option maxRecDepth 100000 in
theorem i200_454 : INS 200 454 = some (0, 1, 3, 0, .null, []) := rfl
set_option maxRecDepth 100000 in
theorem i200_455 : INS 200 455 = some (2, 1, 0, 0, .int 4, []) := rfl
set_option maxRecDepth 100000 in
theorem i200_456 : INS 200 456 = some (3, 1, 0, 0, .null, []) := rfl
set_option maxRecDepth 100000 in
theorem i200_457 : INS 200 457 = some (18, 1, 20, 0, .null, []) := rfl
set_option maxRecDepth 100000 in
theorem i200_458 : INS 200 458 = some (6, 1, 1, 0, .null, []) := rfl
set_option maxRecDepth 100000 in
theorem i200_459 : INS 200 459 = some (2, 3, 1, 0, .long 4294967295, []) := rfl
set_option maxRecDepth 100000 in
theorem i200_462 : INS 200 462 = some (4, 1, 5, 0, .null, []) := rfl
set_option maxRecDepth 100000 in
theorem i200_463 : INS 200 463 = some (4, 1, 6, 0, .null, []) := rfl
set_option maxRecDepth 100000 in
theorem i200_464 : INS 200 464 = some (24, 3, 141, 0, .null, []) := rfl
set_option maxRecDepth 100000 in
theorem i200_467 : INS 200 467 = some (10, 3, 1097, 0, .null, []) := rfl
set_option maxRecDepth 100000 in
theorem i200_470 : INS 200 470 = some (2, 1, 0, 0, .int 0, []) := rfl
set_option maxRecDepth 100000 in
theorem i200_471 : INS 200 471 = some (27, 1, 0, 0, .null, []) := rfl
set_option maxRecDepth 100000 in
theorem i200_472 : INS 200 472 = some (0, 1, 1, 2, .null, []) := rfl
set_option maxRecDepth 100000 in
theorem i200_473 : INS 200 473 = some (0, 1, 0, 2, .null, []) := rfl
set_option maxRecDepth 100000 in
theorem i200_474 : INS 200 474 = some (0, 1, 3, 0, .null, []) := rfl
set_option maxRecDepth 100000 in
theorem i200_475 : INS 200 475 = some (2, 1, 0, 0, .int 1, []) := rfl
set_option maxRecDepth 100000 in
theorem i200_476 : INS 200 476 = some (3, 1, 0, 0, .null, []) := rfl
set_option maxRecDepth 100000 in
theorem i200_477 : INS 200 477 = some (18, 1, 20, 0, .null, []) := rfl
set_option maxRecDepth 100000 in
theorem i200_478 : INS 200 478 = some (0, 1, 0, 2, .null, []) := rfl
set_option maxRecDepth 100000 in
theorem i200_479 : INS 200 479 = some (0, 1, 3, 0, .null, []) := rfl
set_option maxRecDepth 100000 in
theorem i200_480 : INS 200 480 = some (2, 1, 0, 0, .int 2, []) := rfl
set_option maxRecDepth 100000 in
theorem i200_481 : INS 200 481 = some (3, 1, 0, 0, .null, []) := rfl
set_option maxRecDepth 100000 in
theorem i200_482 : INS 200 482 = some (18, 1, 20, 0, .null, []) := rfl
set_option maxRecDepth 100000 in
theorem i200_483 : INS 200 483 = some (0, 1, 0, 2, .null, []) := rfl
set_option maxRecDepth 100000 in
theorem i200_484 : INS 200 484 = some (0, 1, 3, 0, .null, []) := rfl
set_option maxRecDepth 100000 in
theorem i200_485 : INS 200 485 = some (2, 1, 0, 0, .int 3, []) := rfl
set_option maxRecDepth 100000 in
theorem i200_486 : INS 200 486 = some (3, 1, 0, 0, .null, []) := rfl
set_option maxRecDepth 100000 in
theorem i200_487 : INS 200 487 = some (18, 1, 20, 0, .null, []) := rfl
set_option maxRecDepth 100000 in
theorem i200_488 : INS 200 488 = some (0, 1, 0, 2, .null, []) := rfl
set_option maxRecDepth 100000 in
theorem i200_489 : INS 200 489 = some (0, 1, 3, 0, .null, []) := rfl
set_option maxRecDepth 100000 in
theorem i200_490 : INS 200 490 = some (2, 1, 0, 0, .int 4, []) := rfl
set_option maxRecDepth 100000 in
theorem i200_491 : INS 200 491 = some (3, 1, 0, 0, .null, []) := rfl
set_option maxRecDepth 100000 in
theorem i200_492 : INS 200 492 = some (18, 1, 20, 0, .null, []) := rfl
set_option maxRecDepth 100000 in
theorem i200_493 : INS 200 493 = some (0, 1, 0, 2, .null, []) := rfl
set_option maxRecDepth 100000 in
theorem i200_494 : INS 200 494 = some (0, 1, 3, 0, .null, []) := rfl
set_option maxRecDepth 100000 in
theorem i200_495 : INS 200 495 = some (2, 1, 0, 0, .int 5, []) := rfl
set_option maxRecDepth 100000 in
theorem i200_496 : INS 200 496 = some (3, 1, 0, 0, .null, []) := rfl
set_option maxRecDepth 100000 in
theorem i200_497 : INS 200 497 = some (18, 1, 20, 0, .null, []) := rfl
set_option maxRecDepth 100000 in
theorem i200_498 : INS 200 498 = some (24, 3, 90, 0, .null, []) := rfl
set_option maxRecDepth 100000 in
theorem i200_501 : INS 200 501 = some (0, 1, 2, 2, .null, []) := rfl
set_option maxRecDepth 100000 in
theorem i200_502 : INS 200 502 = some (0, 1, 0, 2, .null, []) := rfl
set_option maxRecDepth 100000 in
theorem i200_503 : INS 200 503 = some (0, 1, 3, 0, .null, []) := rfl
set_option maxRecDepth 100000 in
theorem i200_504 : INS 200 504 = some (2, 1, 0, 0, .int 1, []) := rfl
set_option maxRecDepth 100000 in
theorem i200_505 : INS 200 505 = some (3, 1, 0, 0, .null, []) := rfl
set_option maxRecDepth 100000 in
theorem i200_506 : INS 200 506 = some (18, 1, 20, 0, .null, []) := rfl
set_option maxRecDepth 100000 in
theorem i200_507 : INS 200 507 = some (0, 1, 0, 2, .null, []) := rfl
set_option maxRecDepth 100000 in
theorem i200_508 : INS 200 508 = some (0, 1, 3, 0, .null, []) := rfl
set_option maxRecDepth 100000 in
theorem i200_509 : INS 200 509 = some (2, 1, 0, 0, .int 2, []) := rfl
set_option maxRecDepth 100000 in
theorem i200_510 : INS 200 510 = some (3, 1, 0, 0, .null, []) := rfl
set_option maxRecDepth 100000 in
theorem i200_511 : INS 200 511 = some (18, 1, 20, 0, .null, []) := rfl
set_option maxRecDepth 100000 in
theorem i200_512 : INS 200 512 = some (0, 1, 0, 2, .null, []) := rfl
set_option maxRecDepth 100000 in
theorem i200_513 : INS 200 513 = some (0, 1, 3, 0, .null, []) := rfl
set_option maxRecDepth 100000 in
theorem i200_514 : INS 200 514 = some (2, 1, 0, 0, .int 3, []) := rfl
set_option maxRecDepth 100000 in
theorem i200_515 : INS 200 515 = some (3, 1, 0, 0, .null, []) := rfl
set_option maxRecDepth 100000 in
theorem i200_516 : INS 200 516 = some (18, 1, 20, 0, .null, []) := rfl
set_option maxRecDepth 100000 in
theorem i200_517 : INS 200 517 = some (0, 1, 0, 2, .null, []) := rfl
set_option maxRecDepth 100000 in
theorem i200_518 : INS 200 518 = some (0, 1, 3, 0, .null, []) := rfl
set_option maxRecDepth 100000 in
theorem i200_519 : INS 200 519 = some (2, 1, 0, 0, .int 4, []) := rfl
set_option maxRecDepth 100000 in
theorem i200_520 : INS 200 520 = some (3, 1, 0, 0, .null, []) := rfl
set_option maxRecDepth 100000 in
theorem i200_521 : INS 200 521 = some (18, 1, 20, 0, .null, []) := rfl
set_option maxRecDepth 100000 in
theorem i200_522 : INS 200 522 = some (0, 1, 0, 2, .null, []) := rfl
set_option maxRecDepth 100000 in
theorem i200_523 : INS 200 523 = some (0, 1, 3, 0, .null, []) := rfl
set_option maxRecDepth 100000 in
theorem i200_524 : INS 200 524 = some (2, 1, 0, 0, .int 5, []) := rfl
set_option maxRecDepth 100000 in
theorem i200_525 : INS 200 525 = some (3, 1, 0, 0, .null, []) := rfl
set_option maxRecDepth 100000 in
theorem i200_526 : INS 200 526 = some (18, 1, 20, 0, .null, []) := rfl
set_option maxRecDepth 100000 in
theorem i200_527 : INS 200 527 = some (24, 3, 142, 0, .null, []) := rfl
set_option maxRecDepth 100000 in
theorem i200_530 : INS 200 530 = some (10, 3, 1097, 0, .null, []) := rfl
set_option maxRecDepth 100000 in
theorem i200_533 : INS 200 533 = some (2, 1, 0, 0, .int 0, []) := rfl
set_option maxRecDepth 100000 in
theorem i200_534 : INS 200 534 = some (27, 1, 0, 0, .null, []) := rfl
set_option maxRecDepth 100000 in
theorem i200_535 : INS 200 535 = some (0, 1, 1, 2, .null, []) := rfl
set_option maxRecDepth 100000 in
theorem i200_536 : INS 200 536 = some (0, 1, 0, 2, .null, []) := rfl
set_option maxRecDepth 100000 in
theorem i200_537 : INS 200 537 = some (0, 1, 3, 0, .null, []) := rfl
set_option maxRecDepth 100000 in
theorem i200_538 : INS 200 538 = some (2, 1, 0, 0, .int 1, []) := rfl
set_option maxRecDepth 100000 in
theorem i200_539 : INS 200 539 = some (3, 1, 0, 0, .null, []) := rfl
set_option maxRecDepth 100000 in
theorem i200_540 : INS 200 540 = some (18, 1, 20, 0, .null, []) := rfl
set_option maxRecDepth 100000 in
theorem i200_541 : INS 200 541 = some (0, 1, 0, 2, .null, []) := rfl
set_option maxRecDepth 100000 in
theorem i200_542 : INS 200 542 = some (0, 1, 3, 0, .null, []) := rfl
set_option maxRecDepth 100000 in
theorem i200_543 : INS 200 543 = some (2, 1, 0, 0, .int 2, []) := rfl
set_option maxRecDepth 100000 in
theorem i200_544 : INS 200 544 = some (3, 1, 0, 0, .null, []) := rfl
set_option maxRecDepth 100000 in
theorem i200_545 : INS 200 545 = some (18, 1, 20, 0, .null, []) := rfl
set_option maxRecDepth 100000 in
theorem i200_546 : INS 200 546 = some (24, 3, 91, 0, .null, []) := rfl
set_option maxRecDepth 100000 in
theorem i200_549 : INS 200 549 = some (0, 1, 2, 2, .null, []) := rfl
set_option maxRecDepth 100000 in
theorem i200_550 : INS 200 550 = some (0, 1, 0, 2, .null, []) := rfl
set_option maxRecDepth 100000 in
theorem i200_551 : INS 200 551 = some (0, 1, 3, 0, .null, []) := rfl
set_option maxRecDepth 100000 in
theorem i200_552 : INS 200 552 = some (2, 1, 0, 0, .int 1, []) := rfl
set_option maxRecDepth 100000 in
theorem i200_553 : INS 200 553 = some (3, 1, 0, 0, .null, []) := rfl
set_option maxRecDepth 100000 in
theorem i200_554 : INS 200 554 = some (18, 1, 20, 0, .null, []) := rfl
set_option maxRecDepth 100000 in
theorem i200_555 : INS 200 555 = some (0, 1, 0, 2, .null, []) := rfl
set_option maxRecDepth 100000 in
theorem i200_556 : INS 200 556 = some (0, 1, 3, 0, .null, []) := rfl
set_option maxRecDepth 100000 in
theorem i200_557 : INS 200 557 = some (2, 1, 0, 0, .int 2, []) := rfl
set_option maxRecDepth 100000 in
theorem i200_558 : INS 200 558 = some (3, 1, 0, 0, .null, []) := rfl
set_option maxRecDepth 100000 in
theorem i200_559 : INS 200 559 = some (18, 1, 20, 0, .null, []) := rfl
set_option maxRecDepth 100000 in
theorem i200_560 : INS 200 560 = some (24, 3, 143, 0, .null, []) := rfl
set_option maxRecDepth 100000 in
theorem i200_563 : INS 200 563 = some (7, 1, 0, 0, .null, []) := rfl
set_option maxRecDepth 100000 in
theorem i200_564 : INS 200 564 = some (9, 3, 1097, 0, .null, []) := rfl
set_option maxRecDepth 100000 in
theorem i200_567 : INS 200 567 = some (2, 1, 0, 0, .int 0, []) := rfl
set_option maxRecDepth 100000 in
theorem i200_568 : INS 200 568 = some (27, 1, 0, 0, .null, []) := rfl
set_option maxRecDepth 100000 in
theorem i200_569 : INS 200 569 = some (0, 1, 1, 2, .null, []) := rfl
set_option maxRecDepth 100000 in
theorem i200_570 : INS 200 570 = some (0, 1, 0, 2, .null, []) := rfl
set_option maxRecDepth 100000 in
theorem i200_571 : INS 200 571 = some (0, 1, 3, 0, .null, []) := rfl
set_option maxRecDepth 100000 in
theorem i200_572 : INS 200 572 = some (2, 1, 0, 0, .int 1, []) := rfl
set_option maxRecDepth 100000 in
theorem i200_573 : INS 200 573 = some (3, 1, 0, 0, .null, []) := rfl
set_option maxRecDepth 100000 in
theorem i200_574 : INS 200 574 = some (18, 1, 20, 0, .null, []) := rfl
set_option maxRecDepth 100000 in
theorem i200_575 : INS 200 575 = some (24, 3, 92, 0, .null, []) := rfl
set_option maxRecDepth 100000 in
theorem i200_578 : INS 200 578 = some (0, 1, 2, 2, .null, []) := rfl
set_option maxRecDepth 100000 in
theorem i200_579 : INS 200 579 = some (0, 1, 0, 2, .null, []) := rfl
set_option maxRecDepth 100000 in
theorem i200_580 : INS 200 580 = some (0, 1, 3, 0, .null, []) := rfl
set_option maxRecDepth 100000 in
theorem i200_581 : INS 200 581 = some (2, 1, 0, 0, .int 1, []) := rfl
set_option maxRecDepth 100000 in
theorem i200_582 : INS 200 582 = some (3, 1, 0, 0, .null, []) := rfl
set_option maxRecDepth 100000 in
theorem i200_583 : INS 200 583 = some (18, 1, 20, 0, .null, []) := rfl
set_option maxRecDepth 100000 in
theorem i200_584 : INS 200 584 = some (24, 3, 144, 0, .null, []) := rfl
set_option maxRecDepth 100000 in
theorem i200_587 : INS 200 587 = some (10, 3, 1097, 0, .null, []) := rfl
set_option maxRecDepth 100000 in
theorem i200_590 : INS 200 590 = some (2, 1, 0, 0, .int 0, []) := rfl
set_option maxRecDepth 100000 in
theorem i200_591 : INS 200 591 = some (27, 1, 0, 0, .null, []) := rfl
set_option maxRecDepth 100000 in
theorem i200_592 : INS 200 592 = some (0, 1, 1, 2, .null, []) := rfl
set_option maxRecDepth 100000 in
theorem i200_593 : INS 200 593 = some (0, 1, 0, 2, .null, []) := rfl
set_option maxRecDepth 100000 in
theorem i200_594 : INS 200 594 = some (0, 1, 3, 0, .null, []) := rfl
set_option maxRecDepth 100000 in
theorem i200_595 : INS 200 595 = some (2, 1, 0, 0, .int 1, []) := rfl
set_option maxRecDepth 100000 in
theorem i200_596 : INS 200 596 = some (3, 1, 0, 0, .null, []) := rfl
set_option maxRecDepth 100000 in
theorem i200_597 : INS 200 597 = some (18, 1, 20, 0, .null, []) := rfl
set_option maxRecDepth 100000 in
theorem i200_598 : INS 200 598 = some (24, 3, 93, 0, .null, []) := rfl
set_option maxRecDepth 100000 in
theorem i200_601 : INS 200 601 = some (0, 1, 2, 2, .null, []) := rfl
set_option maxRecDepth 100000 in
theorem i200_602 : INS 200 602 = some (0, 1, 0, 2, .null, []) := rfl
set_option maxRecDepth 100000 in
theorem i200_603 : INS 200 603 = some (0, 1, 3, 0, .null, []) := rfl
set_option maxRecDepth 100000 in
theorem i200_604 : INS 200 604 = some (2, 1, 0, 0, .int 1, []) := rfl
set_option maxRecDepth 100000 in
theorem i200_605 : INS 200 605 = some (3, 1, 0, 0, .null, []) := rfl
set_option maxRecDepth 100000 in
theorem i200_606 : INS 200 606 = some (18, 1, 20, 0, .null, []) := rfl
set_option maxRecDepth 100000 in
theorem i200_607 : INS 200 607 = some (24, 3, 145, 0, .null, []) := rfl
set_option maxRecDepth 100000 in
theorem i200_610 : INS 200 610 = some (10, 3, 1097, 0, .null, []) := rfl
set_option maxRecDepth 100000 in
theorem i200_613 : INS 200 613 = some (2, 1, 0, 0, .int 0, []) := rfl
set_option maxRecDepth 100000 in
theorem i200_614 : INS 200 614 = some (27, 1, 0, 0, .null, []) := rfl
set_option maxRecDepth 100000 in
theorem i200_615 : INS 200 615 = some (0, 1, 1, 2, .null, []) := rfl
set_option maxRecDepth 100000 in
theorem i200_616 : INS 200 616 = some (0, 1, 0, 2, .null, []) := rfl
set_option maxRecDepth 100000 in
theorem i200_617 : INS 200 617 = some (0, 1, 3, 0, .null, []) := rfl
set_option maxRecDepth 100000 in
theorem i200_618 : INS 200 618 = some (2, 1, 0, 0, .int 1, []) := rfl
set_option maxRecDepth 100000 in
theorem i200_619 : INS 200 619 = some (3, 1, 0, 0, .null, []) := rfl
set_option maxRecDepth 100000 in
theorem i200_620 : INS 200 620 = some (18, 1, 20, 0, .null, []) := rfl
set_option maxRecDepth 100000 in
theorem i200_621 : INS 200 621 = some (0, 1, 0, 2, .null, []) := rfl
set_option maxRecDepth 100000 in
theorem i200_622 : INS 200 622 = some (0, 1, 3, 0, .null, []) := rfl
set_option maxRecDepth 100000 in
theorem i200_623 : INS 200 623 = some (2, 1, 0, 0, .int 2, []) := rfl
set_option maxRecDepth 100000 in
theorem i200_624 : INS 200 624 = some (3, 1, 0, 0, .null, []) := rfl
set_option maxRecDepth 100000 in
theorem i200_625 : INS 200 625 = some (18, 1, 20, 0, .null, []) := rfl
set_option maxRecDepth 100000 in
theorem i200_626 : INS 200 626 = some (0, 1, 0, 2, .null, []) := rfl
set_option maxRecDepth 100000 in
theorem i200_627 : INS 200 627 = some (0, 1, 3, 0, .null, []) := rfl
set_option maxRecDepth 100000 in
theorem i200_628 : INS 200 628 = some (2, 1, 0, 0, .int 3, []) := rfl
set_option maxRecDepth 100000 in
theorem i200_629 : INS 200 629 = some (3, 1, 0, 0, .null, []) := rfl
set_option maxRecDepth 100000 in
theorem i200_630 : INS 200 630 = some (18, 1, 20, 0, .null, []) := rfl
set_option maxRecDepth 100000 in
theorem i200_631 : INS 200 631 = some (0, 1, 0, 2, .null, []) := rfl
set_option maxRecDepth 100000 in
theorem i200_632 : INS 200 632 = some (0, 1, 3, 0, .null, []) := rfl
set_option maxRecDepth 100000 in
theorem i200_633 : INS 200 633 = some (2, 1, 0, 0, .int 4, []) := rfl
set_option maxRecDepth 100000 in
theorem i200_634 : INS 200 634 = some (3, 1, 0, 0, .null, []) := rfl
set_option maxRecDepth 100000 in
theorem i200_635 : INS 200 635 = some (18, 1, 20, 0, .null, []) := rfl
set_option maxRecDepth 100000 in
theorem i200_636 : INS 200 636 = some (24, 3, 94, 0, .null, []) := rfl
set_option maxRecDepth 100000 in
theorem i200_639 : INS 200 639 = some (0, 1, 2, 2, .null, []) := rfl
set_option maxRecDepth 100000 in
theorem i200_640 : INS 200 640 = some (0, 1, 0, 2, .null, []) := rfl
set_option maxRecDepth 100000 in
theorem i200_641 : INS 200 641 = some (0, 1, 3, 0, .null, []) := rfl
set_option maxRecDepth 100000 in
theorem i200_642 : INS 200 642 = some (2, 1, 0, 0, .int 1, []) := rfl
set_option maxRecDepth 100000 in
theorem i200_643 : INS 200 643 = some (3, 1, 0, 0, .null, []) := rfl
set_option maxRecDepth 100000 in
theorem i200_644 : INS 200 644 = some (18, 1, 20, 0, .null, []) := rfl
set_option maxRecDepth 100000 in
theorem i200_645 : INS 200 645 = some (0, 1, 0, 2, .null, []) := rfl
set_option maxRecDepth 100000 in
theorem i200_646 : INS 200 646 = some (0, 1, 3, 0, .null, []) := rfl
set_option maxRecDepth 100000 in
theorem i200_647 : INS 200 647 = some (2, 1, 0, 0, .int 2, []) := rfl
set_option maxRecDepth 100000 in
theorem i200_648 : INS 200 648 = some (3, 1, 0, 0, .null, []) := rfl
set_option maxRecDepth 100000 in
theorem i200_649 : INS 200 649 = some (18, 1, 20, 0, .null, []) := rfl
set_option maxRecDepth 100000 in
theorem i200_650 : INS 200 650 = some (0, 1, 0, 2, .null, []) := rfl
set_option maxRecDepth 100000 in
theorem i200_651 : INS 200 651 = some (0, 1, 3, 0, .null, []) := rfl
set_option maxRecDepth 100000 in
theorem i200_652 : INS 200 652 = some (2, 1, 0, 0, .int 3, []) := rfl
set_option maxRecDepth 100000 in
theorem i200_653 : INS 200 653 = some (3, 1, 0, 0, .null, []) := rfl
set_option maxRecDepth 100000 in
theorem i200_654 : INS 200 654 = some (18, 1, 20, 0, .null, []) := rfl
set_option maxRecDepth 100000 in
theorem i200_655 : INS 200 655 = some (0, 1, 0, 2, .null, []) := rfl
set_option maxRecDepth 100000 in
theorem i200_656 : INS 200 656 = some (0, 1, 3, 0, .null, []) := rfl
set_option maxRecDepth 100000 in
theorem i200_657 : INS 200 657 = some (2, 1, 0, 0, .int 4, []) := rfl
set_option maxRecDepth 100000 in
theorem i200_658 : INS 200 658 = some (3, 1, 0, 0, .null, []) := rfl
set_option maxRecDepth 100000 in
theorem i200_659 : INS 200 659 = some (18, 1, 20, 0, .null, []) := rfl
set_option maxRecDepth 100000 in
theorem i200_660 : INS 200 660 = some (24, 3, 148, 0, .null, []) := rfl
set_option maxRecDepth 100000 in
theorem i200_663 : INS 200 663 = some (10, 3, 1097, 0, .null, []) := rfl
set_option maxRecDepth 100000 in
theorem i200_666 : INS 200 666 = some (2, 1, 0, 0, .int 0, []) := rfl
set_option maxRecDepth 100000 in
theorem i200_667 : INS 200 667 = some (27, 1, 0, 0, .null, []) := rfl
set_option maxRecDepth 100000 in
theorem i200_668 : INS 200 668 = some (0, 1, 1, 2, .null, []) := rfl
set_option maxRecDepth 100000 in
theorem i200_669 : INS 200 669 = some (0, 1, 0, 2, .null, []) := rfl
set_option maxRecDepth 100000 in
theorem i200_670 : INS 200 670 = some (0, 1, 3, 0, .null, []) := rfl
set_option maxRecDepth 100000 in
theorem i200_671 : INS 200 671 = some (2, 1, 0, 0, .int 1, []) := rfl
set_option maxRecDepth 100000 in
theorem i200_672 : INS 200 672 = some (3, 1, 0, 0, .null, []) := rfl
set_option maxRecDepth 100000 in
theorem i200_673 : INS 200 673 = some (18, 1, 20, 0, .null, []) := rfl
set_option maxRecDepth 100000 in
theorem i200_674 : INS 200 674 = some (0, 1, 0, 2, .null, []) := rfl
set_option maxRecDepth 100000 in
theorem i200_675 : INS 200 675 = some (0, 1, 3, 0, .null, []) := rfl
set_option maxRecDepth 100000 in
theorem i200_676 : INS 200 676 = some (2, 1, 0, 0, .int 2, []) := rfl
set_option maxRecDepth 100000 in
theorem i200_677 : INS 200 677 = some (3, 1, 0, 0, .null, []) := rfl
set_option maxRecDepth 100000 in
theorem i200_678 : INS 200 678 = some (18, 1, 20, 0, .null, []) := rfl
set_option maxRecDepth 100000 in
theorem i200_679 : INS 200 679 = some (0, 1, 0, 2, .null, []) := rfl
set_option maxRecDepth 100000 in
theorem i200_680 : INS 200 680 = some (0, 1, 3, 0, .null, []) := rfl
set_option maxRecDepth 100000 in
theorem i200_681 : INS 200 681 = some (2, 1, 0, 0, .int 3, []) := rfl
set_option maxRecDepth 100000 in
theorem i200_682 : INS 200 682 = some (3, 1, 0, 0, .null, []) := rfl
set_option maxRecDepth 100000 in
theorem i200_683 : INS 200 683 = some (18, 1, 20, 0, .null, []) := rfl
set_option maxRecDepth 100000 in
theorem i200_684 : INS 200 684 = some (24, 3, 95, 0, .null, []) := rfl
set_option maxRecDepth 100000 in
theorem i200_687 : INS 200 687 = some (0, 1, 2, 2, .null, []) := rfl
set_option maxRecDepth 100000 in
theorem i200_688 : INS 200 688 = some (0, 1, 0, 2, .null, []) := rfl
set_option maxRecDepth 100000 in
theorem i200_689 : INS 200 689 = some (0, 1, 3, 0, .null, []) := rfl
set_option maxRecDepth 100000 in
theorem i200_690 : INS 200 690 = some (2, 1, 0, 0, .int 1, []) := rfl
set_option maxRecDepth 100000 in
theorem i200_691 : INS 200 691 = some (3, 1, 0, 0, .null, []) := rfl
set_option maxRecDepth 100000 in
theorem i200_692 : INS 200 692 = some (18, 1, 20, 0, .null, []) := rfl
set_option maxRecDepth 100000 in
theorem i200_693 : INS 200 693 = some (0, 1, 0, 2, .null, []) := rfl
set_option maxRecDepth 100000 in
theorem i200_694 : INS 200 694 = some (0, 1, 3, 0, .null, []) := rfl
set_option maxRecDepth 100000 in
theorem i200_695 : INS 200 695 = some (2, 1, 0, 0, .int 2, []) := rfl
set_option maxRecDepth 100000 in
theorem i200_696 : INS 200 696 = some (3, 1, 0, 0, .null, []) := rfl
set_option maxRecDepth 100000 in
theorem i200_697 : INS 200 697 = some (18, 1, 20, 0, .null, []) := rfl
set_option maxRecDepth 100000 in
theorem i200_698 : INS 200 698 = some (0, 1, 0, 2, .null, []) := rfl
set_option maxRecDepth 100000 in
theorem i200_699 : INS 200 699 = some (0, 1, 3, 0, .null, []) := rfl
set_option maxRecDepth 100000 in
theorem i200_700 : INS 200 700 = some (2, 1, 0, 0, .int 3, []) := rfl
set_option maxRecDepth 100000 in
theorem i200_701 : INS 200 701 = some (3, 1, 0, 0, .null, []) := rfl
set_option maxRecDepth 100000 in
theorem i200_702 : INS 200 702 = some (18, 1, 20, 0, .null, []) := rfl
set_option maxRecDepth 100000 in
theorem i200_703 : INS 200 703 = some (24, 3, 153, 0, .null, []) := rfl
set_option maxRecDepth 100000 in
theorem i200_706 : INS 200 706 = some (10, 3, 1097, 0, .null, []) := rfl
set_option maxRecDepth 100000 in
theorem i200_709 : INS 200 709 = some (2, 1, 0, 0, .int 0, []) := rfl
set_option maxRecDepth 100000 in
theorem i200_710 : INS 200 710 = some (27, 1, 0, 0, .null, []) := rfl
set_option maxRecDepth 100000 in
theorem i200_711 : INS 200 711 = some (0, 1, 1, 2, .null, []) := rfl
set_option maxRecDepth 100000 in
theorem i200_712 : INS 200 712 = some (0, 1, 0, 2, .null, []) := rfl
set_option maxRecDepth 100000 in
theorem i200_713 : INS 200 713 = some (0, 1, 3, 0, .null, []) := rfl
set_option maxRecDepth 100000 in
theorem i200_714 : INS 200 714 = some (2, 1, 0, 0, .int 1, []) := rfl
set_option maxRecDepth 100000 in
theorem i200_715 : INS 200 715 = some (3, 1, 0, 0, .null, []) := rfl
set_option maxRecDepth 100000 in
theorem i200_716 : INS 200 716 = some (18, 1, 20, 0, .null, []) := rfl
set_option maxRecDepth 100000 in
theorem i200_717 : INS 200 717 = some (24, 3, 96, 0, .null, []) := rfl
set_option maxRecDepth 100000 in
theorem i200_720 : INS 200 720 = some (0, 1, 2, 2, .null, []) := rfl
set_option maxRecDepth 100000 in
theorem i200_721 : INS 200 721 = some (0, 1, 0, 2, .null, []) := rfl
set_option maxRecDepth 100000 in
theorem i200_722 : INS 200 722 = some (0, 1, 3, 0, .null, []) := rfl
set_option maxRecDepth 100000 in
theorem i200_723 : INS 200 723 = some (2, 1, 0, 0, .int 1, []) := rfl
set_option maxRecDepth 100000 in
theorem i200_724 : INS 200 724 = some (3, 1, 0, 0, .null, []) := rfl
set_option maxRecDepth 100000 in
theorem i200_725 : INS 200 725 = some (18, 1, 20, 0, .null, []) := rfl
set_option maxRecDepth 100000 in
theorem i200_726 : INS 200 726 = some (24, 3, 154, 0, .null, []) := rfl
set_option maxRecDepth 100000 in
theorem i200_729 : INS 200 729 = some (10, 3, 1097, 0, .null, []) := rfl
set_option maxRecDepth 100000 in
theorem i200_732 : INS 200 732 = some (2, 1, 0, 0, .int 0, []) := rfl
set_option maxRecDepth 100000 in
theorem i200_733 : INS 200 733 = some (27, 1, 0, 0, .null, []) := rfl
set_option maxRecDepth 100000 in
theorem i200_734 : INS 200 734 = some (0, 1, 1, 2, .null, []) := rfl
set_option maxRecDepth 100000 in
theorem i200_735 : INS 200 735 = some (0, 1, 0, 2, .null, []) := rfl
set_option maxRecDepth 100000 in
theorem i200_736 : INS 200 736 = some (0, 1, 3, 0, .null, []) := rfl
set_option maxRecDepth 100000 in
theorem i200_737 : INS 200 737 = some (2, 1, 0, 0, .int 1, []) := rfl
set_option maxRecDepth 100000 in
theorem i200_738 : INS 200 738 = some (3, 1, 0, 0, .null, []) := rfl
set_option maxRecDepth 100000 in
theorem i200_739 : INS 200 739 = some (18, 1, 20, 0, .null, []) := rfl
set_option maxRecDepth 100000 in
theorem i200_740 : INS 200 740 = some (24, 3, 97, 0, .null, []) := rfl
set_option maxRecDepth 100000 in
theorem i200_743 : INS 200 743 = some (0, 1, 2, 2, .null, []) := rfl
set_option maxRecDepth 100000 in
theorem i200_744 : INS 200 744 = some (0, 1, 0, 2, .null, []) := rfl
set_option maxRecDepth 100000 in
theorem i200_745 : INS 200 745 = some (0, 1, 3, 0, .null, []) := rfl
set_option maxRecDepth 100000 in
theorem i200_746 : INS 200 746 = some (2, 1, 0, 0, .int 1, []) := rfl
set_option maxRecDepth 100000 in
theorem i200_747 : INS 200 747 = some (3, 1, 0, 0, .null, []) := rfl
set_option maxRecDepth 100000 in
theorem i200_748 : INS 200 748 = some (18, 1, 20, 0, .null, []) := rfl
set_option maxRecDepth 100000 in
theorem i200_749 : INS 200 749 = some (24, 3, 166, 0, .null, []) := rfl
set_option maxRecDepth 100000 in
theorem i200_752 : INS 200 752 = some (10, 3, 1097, 0, .null, []) := rfl
set_option maxRecDepth 100000 in
theorem i200_755 : INS 200 755 = some (2, 1, 0, 0, .int 0, []) := rfl
set_option maxRecDepth 100000 in
theorem i200_756 : INS 200 756 = some (27, 1, 0, 0, .null, []) := rfl
set_option maxRecDepth 100000 in
theorem i200_757 : INS 200 757 = some (0, 1, 1, 2, .null, []) := rfl
set_option maxRecDepth 100000 in
theorem i200_758 : INS 200 758 = some (0, 1, 0, 2, .null, []) := rfl
set_option maxRecDepth 100000 in
theorem i200_759 : INS 200 759 = some (0, 1, 3, 0, .null, []) := rfl
set_option maxRecDepth 100000 in
theorem i200_760 : INS 200 760 = some (2, 1, 0, 0, .int 1, []) := rfl
set_option maxRecDepth 100000 in
theorem i200_761 : INS 200 761 = some (3, 1, 0, 0, .null, []) := rfl
set_option maxRecDepth 100000 in
theorem i200_762 : INS 200 762 = some (18, 1, 20, 0, .null, []) := rfl
set_option maxRecDepth 100000 in
theorem i200_763 : INS 200 763 = some (24, 3, 98, 0, .null, []) := rfl
set_option maxRecDepth 100000 in
theorem i200_766 : INS 200 766 = some (0, 1, 2, 2, .null, []) := rfl
set_option maxRecDepth 100000 in
theorem i200_767 : INS 200 767 = some (0, 1, 0, 2, .null, []) := rfl
set_option maxRecDepth 100000 in
theorem i200_768 : INS 200 768 = some (0, 1, 3, 0, .null, []) := rfl
set_option maxRecDepth 100000 in
theorem i200_769 : INS 200 769 = some (2, 1, 0, 0, .int 1, []) := rfl
set_option maxRecDepth 100000 in
theorem i200_770 : INS 200 770 = some (3, 1, 0, 0, .null, []) := rfl
set_option maxRecDepth 100000 in
theorem i200_771 : INS 200 771 = some (18, 1, 20, 0, .null, []) := rfl
set_option maxRecDepth 100000 in
theorem i200_772 : INS 200 772 = some (24, 3, 173, 0, .null, []) := rfl
set_option maxRecDepth 100000 in
theorem i200_775 : INS 200 775 = some (10, 3, 1097, 0, .null, []) := rfl
set_option maxRecDepth 100000 in
theorem i200_778 : INS 200 778 = some (2, 1, 0, 0, .int 0, []) := rfl
set_option maxRecDepth 100000 in
theorem i200_779 : INS 200 779 = some (27, 1, 0, 0, .null, []) := rfl
set_option maxRecDepth 100000 in
theorem i200_780 : INS 200 780 = some (0, 1, 1, 2, .null, []) := rfl
set_option maxRecDepth 100000 in
theorem i200_781 : INS 200 781 = some (0, 1, 0, 2, .null, []) := rfl
set_option maxRecDepth 100000 in
theorem i200_782 : INS 200 782 = some (0, 1, 3, 0, .null, []) := rfl
set_option maxRecDepth 100000 in
theorem i200_783 : INS 200 783 = some (2, 1, 0, 0, .int 1, []) := rfl
set_option maxRecDepth 100000 in
theorem i200_784 : INS 200 784 = some (3, 1, 0, 0, .null, []) := rfl
set_option maxRecDepth 100000 in
theorem i200_785 : INS 200 785 = some (18, 1, 20, 0, .null, []) := rfl
set_option maxRecDepth 100000 in
theorem i200_786 : INS 200 786 = some (24, 3, 99, 0, .null, []) := rfl
set_option maxRecDepth 100000 in
theorem i200_789 : INS 200 789 = some (0, 1, 2, 2, .null, []) := rfl
set_option maxRecDepth 100000 in
theorem i200_790 : INS 200 790 = some (0, 1, 0, 2, .null, []) := rfl
set_option maxRecDepth 100000 in
theorem i200_791 : INS 200 791 = some (0, 1, 3, 0, .null, []) := rfl
set_option maxRecDepth 100000 in
theorem i200_792 : INS 200 792 = some (2, 1, 0, 0, .int 1, []) := rfl
set_option maxRecDepth 100000 in
theorem i200_793 : INS 200 793 = some (3, 1, 0, 0, .null, []) := rfl
set_option maxRecDepth 100000 in
theorem i200_794 : INS 200 794 = some (18, 1, 20, 0, .null, []) := rfl
set_option maxRecDepth 100000 in
theorem i200_795 : INS 200 795 = some (24, 3, 174, 0, .null, []) := rfl
set_option maxRecDepth 100000 in
theorem i200_798 : INS 200 798 = some (10, 3, 1097, 0, .null, []) := rfl
set_option maxRecDepth 100000 in
theorem i200_801 : INS 200 801 = some (2, 1, 0, 0, .int 0, []) := rfl
set_option maxRecDepth 100000 in
theorem i200_802 : INS 200 802 = some (27, 1, 0, 0, .null, []) := rfl
set_option maxRecDepth 100000 in
theorem i200_803 : INS 200 803 = some (0, 1, 1, 2, .null, []) := rfl
set_option maxRecDepth 100000 in
theorem i200_804 : INS 200 804 = some (0, 1, 0, 2, .null, []) := rfl
set_option maxRecDepth 100000 in
theorem i200_805 : INS 200 805 = some (0, 1, 3, 0, .null, []) := rfl
set_option maxRecDepth 100000 in
theorem i200_806 : INS 200 806 = some (2, 1, 0, 0, .int 1, []) := rfl
set_option maxRecDepth 100000 in
theorem i200_807 : INS 200 807 = some (3, 1, 0, 0, .null, []) := rfl
set_option maxRecDepth 100000 in
theorem i200_808 : INS 200 808 = some (18, 1, 20, 0, .null, []) := rfl
set_option maxRecDepth 100000 in
theorem i200_809 : INS 200 809 = some (0, 1, 0, 2, .null, []) := rfl
set_option maxRecDepth 100000 in
theorem i200_810 : INS 200 810 = some (0, 1, 3, 0, .null, []) := rfl
set_option maxRecDepth 100000 in
theorem i200_811 : INS 200 811 = some (2, 1, 0, 0, .int 2, []) := rfl
set_option maxRecDepth 100000 in
theorem i200_812 : INS 200 812 = some (3, 1, 0, 0, .null, []) := rfl
set_option maxRecDepth 100000 in
theorem i200_813 : INS 200 813 = some (18, 1, 20, 0, .null, []) := rfl
set_option maxRecDepth 100000 in
theorem i200_814 : INS 200 814 = some (24, 3, 100, 0, .null, []) := rfl
set_option maxRecDepth 100000 in
theorem i200_817 : INS 200 817 = some (0, 1, 2, 2, .null, []) := rfl
set_option maxRecDepth 100000 in
theorem i200_818 : INS 200 818 = some (0, 1, 0, 2, .null, []) := rfl
set_option maxRecDepth 100000 in
theorem i200_819 : INS 200 819 = some (0, 1, 3, 0, .null, []) := rfl
set_option maxRecDepth 100000 in
theorem i200_820 : INS 200 820 = some (2, 1, 0, 0, .int 1, []) := rfl
set_option maxRecDepth 100000 in
theorem i200_821 : INS 200 821 = some (3, 1, 0, 0, .null, []) := rfl
set_option maxRecDepth 100000 in
theorem i200_822 : INS 200 822 = some (18, 1, 20, 0, .null, []) := rfl
set_option maxRecDepth 100000 in
theorem i200_823 : INS 200 823 = some (0, 1, 0, 2, .null, []) := rfl
set_option maxRecDepth 100000 in
theorem i200_824 : INS 200 824 = some (0, 1, 3, 0, .null, []) := rfl
set_option maxRecDepth 100000 in
theorem i200_825 : INS 200 825 = some (2, 1, 0, 0, .int 2, []) := rfl
set_option maxRecDepth 100000 in
theorem i200_826 : INS 200 826 = some (3, 1, 0, 0, .null, []) := rfl
set_option maxRecDepth 100000 in
theorem i200_827 : INS 200 827 = some (18, 1, 20, 0, .null, []) := rfl
set_option maxRecDepth 100000 in
theorem i200_828 : INS 200 828 = some (24, 3, 175, 0, .null, []) := rfl
set_option maxRecDepth 100000 in
theorem i200_831 : INS 200 831 = some (10, 3, 1097, 0, .null, []) := rfl
set_option maxRecDepth 100000 in
theorem i200_834 : INS 200 834 = some (2, 1, 0, 0, .int 0, []) := rfl
set_option maxRecDepth 100000 in
theorem i200_835 : INS 200 835 = some (27, 1, 0, 0, .null, []) := rfl
set_option maxRecDepth 100000 in
theorem i200_836 : INS 200 836 = some (0, 1, 1, 2, .null, []) := rfl
set_option maxRecDepth 100000 in
theorem i200_837 : INS 200 837 = some (0, 1, 0, 2, .null, []) := rfl
set_option maxRecDepth 100000 in
theorem i200_838 : INS 200 838 = some (0, 1, 3, 0, .null, []) := rfl
set_option maxRecDepth 100000 in
theorem i200_839 : INS 200 839 = some (2, 1, 0, 0, .int 1, []) := rfl
set_option maxRecDepth 100000 in
theorem i200_840 : INS 200 840 = some (3, 1, 0, 0, .null, []) := rfl
set_option maxRecDepth 100000 in
theorem i200_841 : INS 200 841 = some (18, 1, 20, 0, .null, []) := rfl
set_option maxRecDepth 100000 in
theorem i200_842 : INS 200 842 = some (0, 1, 0, 2, .null, []) := rfl
set_option maxRecDepth 100000 in
theorem i200_843 : INS 200 843 = some (0, 1, 3, 0, .null, []) := rfl
set_option maxRecDepth 100000 in
theorem i200_844 : INS 200 844 = some (2, 1, 0, 0, .int 2, []) := rfl
set_option maxRecDepth 100000 in
theorem i200_845 : INS 200 845 = some (3, 1, 0, 0, .null, []) := rfl
set_option maxRecDepth 100000 in
theorem i200_846 : INS 200 846 = some (18, 1, 20, 0, .null, []) := rfl
set_option maxRecDepth 100000 in
theorem i200_847 : INS 200 847 = some (24, 3, 101, 0, .null, []) := rfl
set_option maxRecDepth 100000 in
theorem i200_850 : INS 200 850 = some (0, 1, 2, 2, .null, []) := rfl
set_option maxRecDepth 100000 in
theorem i200_851 : INS 200 851 = some (0, 1, 0, 2, .null, []) := rfl
set_option maxRecDepth 100000 in
theorem i200_852 : INS 200 852 = some (0, 1, 3, 0, .null, []) := rfl
set_option maxRecDepth 100000 in
theorem i200_853 : INS 200 853 = some (2, 1, 0, 0, .int 1, []) := rfl
set_option maxRecDepth 100000 in
theorem i200_854 : INS 200 854 = some (3, 1, 0, 0, .null, []) := rfl
set_option maxRecDepth 100000 in
theorem i200_855 : INS 200 855 = some (18, 1, 20, 0, .null, []) := rfl
set_option maxRecDepth 100000 in
theorem i200_856 : INS 200 856 = some (0, 1, 0, 2, .null, []) := rfl
set_option maxRecDepth 100000 in
theorem i200_857 : INS 200 857 = some (0, 1, 3, 0, .null, []) := rfl
set_option maxRecDepth 100000 in
theorem i200_858 : INS 200 858 = some (2, 1, 0, 0, .int 2, []) := rfl
set_option maxRecDepth 100000 in
theorem i200_859 : INS 200 859 = some (3, 1, 0, 0, .null, []) := rfl
set_option maxRecDepth 100000 in
theorem i200_860 : INS 200 860 = some (18, 1, 20, 0, .null, []) := rfl
set_option maxRecDepth 100000 in
theorem i200_861 : INS 200 861 = some (24, 3, 176, 0, .null, []) := rfl
set_option maxRecDepth 100000 in
theorem i200_864 : INS 200 864 = some (10, 3, 1097, 0, .null, []) := rfl
set_option maxRecDepth 100000 in
theorem i200_867 : INS 200 867 = some (2, 1, 0, 0, .int 0, []) := rfl
set_option maxRecDepth 100000 in
theorem i200_868 : INS 200 868 = some (27, 1, 0, 0, .null, []) := rfl
set_option maxRecDepth 100000 in
theorem i200_869 : INS 200 869 = some (0, 1, 1, 2, .null, []) := rfl
set_option maxRecDepth 100000 in
theorem i200_870 : INS 200 870 = some (0, 1, 0, 2, .null, []) := rfl
set_option maxRecDepth 100000 in
theorem i200_871 : INS 200 871 = some (0, 1, 3, 0, .null, []) := rfl
set_option maxRecDepth 100000 in
theorem i200_872 : INS 200 872 = some (2, 1, 0, 0, .int 1, []) := rfl
set_option maxRecDepth 100000 in
theorem i200_873 : INS 200 873 = some (3, 1, 0, 0, .null, []) := rfl
set_option maxRecDepth 100000 in
theorem i200_874 : INS 200 874 = some (18, 1, 20, 0, .null, []) := rfl
set_option maxRecDepth 100000 in
theorem i200_875 : INS 200 875 = some (24, 3, 102, 0, .null, []) := rfl
set_option maxRecDepth 100000 in
theorem i200_878 : INS 200 878 = some (0, 1, 2, 2, .null, []) := rfl
set_option maxRecDepth 100000 in
theorem i200_879 : INS 200 879 = some (0, 1, 0, 2, .null, []) := rfl
set_option maxRecDepth 100000 in
theorem i200_880 : INS 200 880 = some (0, 1, 3, 0, .null, []) := rfl
set_option maxRecDepth 100000 in
theorem i200_881 : INS 200 881 = some (2, 1, 0, 0, .int 1, []) := rfl
set_option maxRecDepth 100000 in
theorem i200_882 : INS 200 882 = some (3, 1, 0, 0, .null, []) := rfl
set_option maxRecDepth 100000 in
theorem i200_883 : INS 200 883 = some (18, 1, 20, 0, .null, []) := rfl
set_option maxRecDepth 100000 in
theorem i200_884 : INS 200 884 = some (24, 3, 177, 0, .null, []) := rfl
set_option maxRecDepth 100000 in
theorem i200_887 : INS 200 887 = some (10, 3, 1097, 0, .null, []) := rfl
set_option maxRecDepth 100000 in
theorem i200_890 : INS 200 890 = some (2, 1, 0, 0, .int 0, []) := rfl
set_option maxRecDepth 100000 in
theorem i200_891 : INS 200 891 = some (27, 1, 0, 0, .null, []) := rfl
set_option maxRecDepth 100000 in
theorem i200_892 : INS 200 892 = some (0, 1, 1, 2, .null, []) := rfl
set_option maxRecDepth 100000 in
theorem i200_893 : INS 200 893 = some (0, 1, 0, 2, .null, []) := rfl
set_option maxRecDepth 100000 in
theorem i200_894 : INS 200 894 = some (0, 1, 3, 0, .null, []) := rfl
set_option maxRecDepth 100000 in
theorem i200_895 : INS 200 895 = some (2, 1, 0, 0, .int 1, []) := rfl
set_option maxRecDepth 100000 in
theorem i200_896 : INS 200 896 = some (3, 1, 0, 0, .null, []) := rfl
set_option maxRecDepth 100000 in
theorem i200_897 : INS 200 897 = some (18, 1, 20, 0, .null, []) := rfl
set_option maxRecDepth 100000 in
theorem i200_898 : INS 200 898 = some (0, 1, 0, 2, .null, []) := rfl
set_option maxRecDepth 100000 in
theorem i200_899 : INS 200 899 = some (0, 1, 3, 0, .null, []) := rfl
set_option maxRecDepth 100000 in
theorem i200_900 : INS 200 900 = some (2, 1, 0, 0, .int 2, []) := rfl
set_option maxRecDepth 100000 in
theorem i200_901 : INS 200 901 = some (3, 1, 0, 0, .null, []) := rfl
set_option maxRecDepth 100000 in
theorem i200_902 : INS 200 902 = some (18, 1, 20, 0, .null, []) := rfl
set_option maxRecDepth 100000 in
theorem i200_903 : INS 200 903 = some (0, 1, 0, 2, .null, []) := rfl
set_option maxRecDepth 100000 in
theorem i200_904 : INS 200 904 = some (0, 1, 3, 0, .null, []) := rfl
set_option maxRecDepth 100000 in
theorem i200_905 : INS 200 905 = some (2, 1, 0, 0, .int 3, []) := rfl
set_option maxRecDepth 100000 in
theorem i200_906 : INS 200 906 = some (3, 1, 0, 0, .null, []) := rfl
set_option maxRecDepth 100000 in
theorem i200_907 : INS 200 907 = some (18, 1, 20, 0, .null, []) := rfl
set_option maxRecDepth 100000 in
theorem i200_908 : INS 200 908 = some (24, 3, 103, 0, .null, []) := rfl
set_option maxRecDepth 100000 in
theorem i200_911 : INS 200 911 = some (0, 1, 2, 2, .null, []) := rfl
set_option maxRecDepth 100000 in
theorem i200_912 : INS 200 912 = some (0, 1, 0, 2, .null, []) := rfl
set_option maxRecDepth 100000 in
theorem i200_913 : INS 200 913 = some (0, 1, 3, 0, .null, []) := rfl
set_option maxRecDepth 100000 in
theorem i200_914 : INS 200 914 = some (2, 1, 0, 0, .int 1, []) := rfl
set_option maxRecDepth 100000 in
theorem i200_915 : INS 200 915 = some (3, 1, 0, 0, .null, []) := rfl
set_option maxRecDepth 100000 in
theorem i200_916 : INS 200 916 = some (18, 1, 20, 0, .null, []) := rfl
set_option maxRecDepth 100000 in
theorem i200_917 : INS 200 917 = some (0, 1, 0, 2, .null, []) := rfl
set_option maxRecDepth 100000 in
theorem i200_918 : INS 200 918 = some (0, 1, 3, 0, .null, []) := rfl
set_option maxRecDepth 100000 in
theorem i200_919 : INS 200 919 = some (2, 1, 0, 0, .int 2, []) := rfl
set_option maxRecDepth 100000 in
theorem i200_920 : INS 200 920 = some (3, 1, 0, 0, .null, []) := rfl
set_option maxRecDepth 100000 in
theorem i200_921 : INS 200 921 = some (18, 1, 20, 0, .null, []) := rfl
set_option maxRecDepth 100000 in
theorem i200_922 : INS 200 922 = some (0, 1, 0, 2, .null, []) := rfl
set_option maxRecDepth 100000 in
theorem i200_923 : INS 200 923 = some (0, 1, 3, 0, .null, []) := rfl
set_option maxRecDepth 100000 in
theorem i200_924 : INS 200 924 = some (2, 1, 0, 0, .int 3, []) := rfl
set_option maxRecDepth 100000 in
theorem i200_925 : INS 200 925 = some (3, 1, 0, 0, .null, []) := rfl
set_option maxRecDepth 100000 in
theorem i200_926 : INS 200 926 = some (18, 1, 20, 0, .null, []) := rfl
set_option maxRecDepth 100000 in
theorem i200_927 : INS 200 927 = some (24, 3, 182, 0, .null, []) := rfl
set_option maxRecDepth 100000 in
theorem i200_930 : INS 200 930 = some (10, 3, 1097, 0, .null, []) := rfl
set_option maxRecDepth 100000 in
theorem i200_933 : INS 200 933 = some (2, 1, 0, 0, .int 0, []) := rfl
set_option maxRecDepth 100000 in
theorem i200_934 : INS 200 934 = some (27, 1, 0, 0, .null, []) := rfl
set_option maxRecDepth 100000 in
theorem i200_935 : INS 200 935 = some (0, 1, 1, 2, .null, []) := rfl
set_option maxRecDepth 100000 in
theorem i200_936 : INS 200 936 = some (0, 1, 0, 2, .null, []) := rfl
set_option maxRecDepth 100000 in
theorem i200_937 : INS 200 937 = some (0, 1, 3, 0, .null, []) := rfl
set_option maxRecDepth 100000 in
theorem i200_938 : INS 200 938 = some (2, 1, 0, 0, .int 1, []) := rfl
set_option maxRecDepth 100000 in
theorem i200_939 : INS 200 939 = some (3, 1, 0, 0, .null, []) := rfl
set_option maxRecDepth 100000 in
theorem i200_940 : INS 200 940 = some (18, 1, 20, 0, .null, []) := rfl
set_option maxRecDepth 100000 in
theorem i200_941 : INS 200 941 = some (24, 3, 104, 0, .null, []) := rfl
set_option maxRecDepth 100000 in
theorem i200_944 : INS 200 944 = some (0, 1, 2, 2, .null, []) := rfl
set_option maxRecDepth 100000 in
theorem i200_945 : INS 200 945 = some (0, 1, 0, 2, .null, []) := rfl
set_option maxRecDepth 100000 in
theorem i200_946 : INS 200 946 = some (0, 1, 3, 0, .null, []) := rfl
set_option maxRecDepth 100000 in
theorem i200_947 : INS 200 947 = some (2, 1, 0, 0, .int 1, []) := rfl
set_option maxRecDepth 100000 in
theorem i200_948 : INS 200 948 = some (3, 1, 0, 0, .null, []) := rfl
set_option maxRecDepth 100000 in
theorem i200_949 : INS 200 949 = some (18, 1, 20, 0, .null, []) := rfl
set_option maxRecDepth 100000 in
theorem i200_950 : INS 200 950 = some (24, 3, 183, 0, .null, []) := rfl
set_option maxRecDepth 100000 in
theorem i200_953 : INS 200 953 = some (10, 3, 1097, 0, .null, []) := rfl
set_option maxRecDepth 100000 in
theorem i200_956 : INS 200 956 = some (2, 1, 0, 0, .int 0, []) := rfl
set_option maxRecDepth 100000 in
theorem i200_957 : INS 200 957 = some (27, 1, 0, 0, .null, []) := rfl
set_option maxRecDepth 100000 in
theorem i200_958 : INS 200 958 = some (0, 1, 1, 2, .null, []) := rfl
set_option maxRecDepth 100000 in
theorem i200_959 : INS 200 959 = some (0, 1, 0, 2, .null, []) := rfl
set_option maxRecDepth 100000 in
theorem i200_960 : INS 200 960 = some (0, 1, 3, 0, .null, []) := rfl
set_option maxRecDepth 100000 in
theorem i200_961 : INS 200 961 = some (2, 1, 0, 0, .int 1, []) := rfl
set_option maxRecDepth 100000 in
theorem i200_962 : INS 200 962 = some (3, 1, 0, 0, .null, []) := rfl
set_option maxRecDepth 100000 in
theorem i200_963 : INS 200 963 = some (18, 1, 20, 0, .null, []) := rfl
set_option maxRecDepth 100000 in
theorem i200_964 : INS 200 964 = some (0, 1, 0, 2, .null, []) := rfl
set_option maxRecDepth 100000 in
theorem i200_965 : INS 200 965 = some (0, 1, 3, 0, .null, []) := rfl
set_option maxRecDepth 100000 in
theorem i200_966 : INS 200 966 = some (2, 1, 0, 0, .int 2, []) := rfl
set_option maxRecDepth 100000 in
theorem i200_967 : INS 200 967 = some (3, 1, 0, 0, .null, []) := rfl
set_option maxRecDepth 100000 in
theorem i200_968 : INS 200 968 = some (18, 1, 20, 0, .null, []) := rfl
set_option maxRecDepth 100000 in
theorem i200_969 : INS 200 969 = some (9, 3, 976, 0, .null, []) := rfl
set_option maxRecDepth 100000 in
theorem i200_972 : INS 200 972 = some (2, 1, 0, 0, .int 1, []) := rfl
set_option maxRecDepth 100000 in
theorem i200_973 : INS 200 973 = some (12, 3, 977, 0, .null, []) := rfl
set_option maxRecDepth 100000 in
theorem i200_976 : INS 200 976 = some (2, 1, 0, 0, .int 0, []) := rfl
set_option maxRecDepth 100000 in
theorem i200_977 : INS 200 977 = some (24, 3, 105, 0, .null, []) := rfl
set_option maxRecDepth 100000 in
theorem i200_980 : INS 200 980 = some (0, 1, 2, 2, .null, []) := rfl
set_option maxRecDepth 100000 in
theorem i200_981 : INS 200 981 = some (0, 1, 0, 2, .null, []) := rfl
set_option maxRecDepth 100000 in
theorem i200_982 : INS 200 982 = some (0, 1, 3, 0, .null, []) := rfl
set_option maxRecDepth 100000 in
theorem i200_983 : INS 200 983 = some (2, 1, 0, 0, .int 1, []) := rfl
set_option maxRecDepth 100000 in
theorem i200_984 : INS 200 984 = some (3, 1, 0, 0, .null, []) := rfl
set_option maxRecDepth 100000 in
theorem i200_985 : INS 200 985 = some (18, 1, 20, 0, .null, []) := rfl
set_option maxRecDepth 100000 in
theorem i200_986 : INS 200 986 = some (0, 1, 0, 2, .null, []) := rfl
set_option maxRecDepth 100000 in
theorem i200_987 : INS 200 987 = some (0, 1, 3, 0, .null, []) := rfl
set_option maxRecDepth 100000 in
theorem i200_988 : INS 200 988 = some (2, 1, 0, 0, .int 2, []) := rfl
set_option maxRecDepth 100000 in
theorem i200_989 : INS 200 989 = some (3, 1, 0, 0, .null, []) := rfl
set_option maxRecDepth 100000 in
theorem i200_990 : INS 200 990 = some (18, 1, 20, 0, .null, []) := rfl
set_option maxRecDepth 100000 in
theorem i200_991 : INS 200 991 = some (9, 3, 998, 0, .null, []) := rfl
set_option maxRecDepth 100000 in
theorem i200_994 : INS 200 994 = some (2, 1, 0, 0, .int 1, []) := rfl
set_option maxRecDepth 100000 in
theorem i200_995 : INS 200 995 = some (12, 3, 999, 0, .null, []) := rfl
set_option maxRecDepth 100000 in
theorem i200_998 : INS 200 998 = some (2, 1, 0, 0, .int 0, []) := rfl
set_option maxRecDepth 100000 in
theorem i200_999 : INS 200 999 = some (24, 3, 184, 0, .null, []) := rfl
set_option maxRecDepth 100000 in
theorem i200_1002 : INS 200 1002 = some (7, 1, 0, 0, .null, []) := rfl
set_option maxRecDepth 100000 in
theorem i200_1003 : INS 200 1003 = some (9, 3, 1097, 0, .null, []) := rfl
set_option maxRecDepth 100000 in
theorem i200_1006 : INS 200 1006 = some (2, 1, 0, 0, .int 0, []) := rfl
set_option maxRecDepth 100000 in
theorem i200_1007 : INS 200 1007 = some (27, 1, 0, 0, .null, []) := rfl
set_option maxRecDepth 100000 in
theorem i200_1008 : INS 200 1008 = some (0, 1, 1, 2, .null, []) := rfl
set_option maxRecDepth 100000 in
theorem i200_1009 : INS 200 1009 = some (0, 1, 0, 2, .null, []) := rfl
set_option maxRecDepth 100000 in
theorem i200_1010 : INS 200 1010 = some (0, 1, 3, 0, .null, []) := rfl
set_option maxRecDepth 100000 in
theorem i200_1011 : INS 200 1011 = some (2, 1, 0, 0, .int 1, []) := rfl
set_option maxRecDepth 100000 in
theorem i200_1012 : INS 200 1012 = some (3, 1, 0, 0, .null, []) := rfl
set_option maxRecDepth 100000 in
theorem i200_1013 : INS 200 1013 = some (18, 1, 20, 0, .null, []) := rfl
set_option maxRecDepth 100000 in
theorem i200_1014 : INS 200 1014 = some (0, 1, 0, 2, .null, []) := rfl
set_option maxRecDepth 100000 in
theorem i200_1015 : INS 200 1015 = some (0, 1, 3, 0, .null, []) := rfl
set_option maxRecDepth 100000 in
theorem i200_1016 : INS 200 1016 = some (2, 1, 0, 0, .int 2, []) := rfl
set_option maxRecDepth 100000 in
theorem i200_1017 : INS 200 1017 = some (3, 1, 0, 0, .null, []) := rfl
set_option maxRecDepth 100000 in
theorem i200_1018 : INS 200 1018 = some (18, 1, 20, 0, .null, []) := rfl
set_option maxRecDepth 100000 in
theorem i200_1019 : INS 200 1019 = some (24, 3, 106, 0, .null, []) := rfl
set_option maxRecDepth 100000 in
theorem i200_1022 : INS 200 1022 = some (0, 1, 2, 2, .null, []) := rfl
set_option maxRecDepth 100000 in
theorem i200_1023 : INS 200 1023 = some (0, 1, 0, 2, .null, []) := rfl
set_option maxRecDepth 100000 in
theorem i200_1024 : INS 200 1024 = some (0, 1, 3, 0, .null, []) := rfl
set_option maxRecDepth 100000 in
theorem i200_1025 : INS 200 1025 = some (2, 1, 0, 0, .int 1, []) := rfl
set_option maxRecDepth 100000 in
theorem i200_1026 : INS 200 1026 = some (3, 1, 0, 0, .null, []) := rfl
set_option maxRecDepth 100000 in
theorem i200_1027 : INS 200 1027 = some (18, 1, 20, 0, .null, []) := rfl
set_option maxRecDepth 100000 in
theorem i200_1028 : INS 200 1028 = some (0, 1, 0, 2, .null, []) := rfl
set_option maxRecDepth 100000 in
theorem i200_1029 : INS 200 1029 = some (0, 1, 3, 0, .null, []) := rfl
set_option maxRecDepth 100000 in
theorem i200_1030 : INS 200 1030 = some (2, 1, 0, 0, .int 2, []) := rfl
set_option maxRecDepth 100000 in
theorem i200_1031 : INS 200 1031 = some (3, 1, 0, 0, .null, []) := rfl
set_option maxRecDepth 100000 in
theorem i200_1032 : INS 200 1032 = some (18, 1, 20, 0, .null, []) := rfl
set_option maxRecDepth 100000 in
theorem i200_1033 : INS 200 1033 = some (24, 3, 190, 0, .null, []) := rfl
set_option maxRecDepth 100000 in
theorem i200_1036 : INS 200 1036 = some (10, 3, 1097, 0, .null, []) := rfl
set_option maxRecDepth 100000 in
theorem i200_1039 : INS 200 1039 = some (2, 1, 0, 0, .int 0, []) := rfl
set_option maxRecDepth 100000 in
theorem i200_1040 : INS 200 1040 = some (27, 1, 0, 0, .null, []) := rfl
set_option maxRecDepth 100000 in
theorem i200_1041 : INS 200 1041 = some (0, 1, 1, 2, .null, []) := rfl
set_option maxRecDepth 100000 in
theorem i200_1042 : INS 200 1042 = some (0, 1, 0, 2, .null, []) := rfl
set_option maxRecDepth 100000 in
theorem i200_1043 : INS 200 1043 = some (0, 1, 3, 0, .null, []) := rfl
set_option maxRecDepth 100000 in
theorem i200_1044 : INS 200 1044 = some (2, 1, 0, 0, .int 1, []) := rfl
set_option maxRecDepth 100000 in
theorem i200_1045 : INS 200 1045 = some (3, 1, 0, 0, .null, []) := rfl
set_option maxRecDepth 100000 in
theorem i200_1046 : INS 200 1046 = some (18, 1, 20, 0, .null, []) := rfl
set_option maxRecDepth 100000 in
theorem i200_1047 : INS 200 1047 = some (0, 1, 0, 2, .null, []) := rfl
set_option maxRecDepth 100000 in
theorem i200_1048 : INS 200 1048 = some (0, 1, 3, 0, .null, []) := rfl
set_option maxRecDepth 100000 in
theorem i200_1049 : INS 200 1049 = some (2, 1, 0, 0, .int 2, []) := rfl
set_option maxRecDepth 100000 in
theorem i200_1050 : INS 200 1050 = some (3, 1, 0, 0, .null, []) := rfl
set_option maxRecDepth 100000 in
theorem i200_1051 : INS 200 1051 = some (18, 1, 20, 0, .null, []) := rfl
set_option maxRecDepth 100000 in
theorem i200_1052 : INS 200 1052 = some (24, 3, 107, 0, .null, []) := rfl
set_option maxRecDepth 100000 in
theorem i200_1055 : INS 200 1055 = some (0, 1, 2, 2, .null, []) := rfl
set_option maxRecDepth 100000 in
theorem i200_1056 : INS 200 1056 = some (0, 1, 0, 2, .null, []) := rfl
set_option maxRecDepth 100000 in
theorem i200_1057 : INS 200 1057 = some (0, 1, 3, 0, .null, []) := rfl
set_option maxRecDepth 100000 in
theorem i200_1058 : INS 200 1058 = some (2, 1, 0, 0, .int 1, []) := rfl
set_option maxRecDepth 100000 in
theorem i200_1059 : INS 200 1059 = some (3, 1, 0, 0, .null, []) := rfl
set_option maxRecDepth 100000 in
theorem i200_1060 : INS 200 1060 = some (18, 1, 20, 0, .null, []) := rfl
set_option maxRecDepth 100000 in
theorem i200_1061 : INS 200 1061 = some (0, 1, 0, 2, .null, []) := rfl
set_option maxRecDepth 100000 in
theorem i200_1062 : INS 200 1062 = some (0, 1, 3, 0, .null, []) := rfl
set_option maxRecDepth 100000 in
theorem i200_1063 : INS 200 1063 = some (2, 1, 0, 0, .int 2, []) := rfl
set_option maxRecDepth 100000 in
theorem i200_1064 : INS 200 1064 = some (3, 1, 0, 0, .null, []) := rfl
set_option maxRecDepth 100000 in
theorem i200_1065 : INS 200 1065 = some (18, 1, 20, 0, .null, []) := rfl
set_option maxRecDepth 100000 in
theorem i200_1066 : INS 200 1066 = some (24, 3, 192, 0, .null, []) := rfl
set_option maxRecDepth 100000 in
theorem i200_1069 : INS 200 1069 = some (10, 3, 1097, 0, .null, []) := rfl
set_option maxRecDepth 100000 in
theorem i200_1072 : INS 200 1072 = some (2, 1, 0, 0, .int 0, []) := rfl
set_option maxRecDepth 100000 in
theorem i200_1073 : INS 200 1073 = some (27, 1, 0, 0, .null, []) := rfl
set_option maxRecDepth 100000 in
theorem i200_1074 : INS 200 1074 = some (0, 1, 1, 2, .null, []) := rfl
set_option maxRecDepth 100000 in
theorem i200_1075 : INS 200 1075 = some (0, 1, 0, 2, .null, []) := rfl
set_option maxRecDepth 100000 in
theorem i200_1076 : INS 200 1076 = some (0, 1, 3, 0, .null, []) := rfl
set_option maxRecDepth 100000 in
theorem i200_1077 : INS 200 1077 = some (2, 1, 0, 0, .int 1, []) := rfl
set_option maxRecDepth 100000 in
theorem i200_1078 : INS 200 1078 = some (3, 1, 0, 0, .null, []) := rfl
set_option maxRecDepth 100000 in
theorem i200_1079 : INS 200 1079 = some (18, 1, 20, 0, .null, []) := rfl
set_option maxRecDepth 100000 in
theorem i200_1080 : INS 200 1080 = some (24, 3, 108, 0, .null, []) := rfl
set_option maxRecDepth 100000 in
theorem i200_1083 : INS 200 1083 = some (0, 1, 2, 2, .null, []) := rfl
set_option maxRecDepth 100000 in
theorem i200_1084 : INS 200 1084 = some (0, 1, 0, 2, .null, []) := rfl
set_option maxRecDepth 100000 in
theorem i200_1085 : INS 200 1085 = some (0, 1, 3, 0, .null, []) := rfl
set_option maxRecDepth 100000 in
theorem i200_1086 : INS 200 1086 = some (2, 1, 0, 0, .int 1, []) := rfl
set_option maxRecDepth 100000 in
theorem i200_1087 : INS 200 1087 = some (3, 1, 0, 0, .null, []) := rfl
set_option maxRecDepth 100000 in
theorem i200_1088 : INS 200 1088 = some (18, 1, 20, 0, .null, []) := rfl
set_option maxRecDepth 100000 in
theorem i200_1089 : INS 200 1089 = some (24, 3, 194, 0, .null, []) := rfl
set_option maxRecDepth 100000 in
theorem i200_1092 : INS 200 1092 = some (10, 3, 1097, 0, .null, []) := rfl
set_option maxRecDepth 100000 in
theorem i200_1095 : INS 200 1095 = some (2, 1, 0, 0, .int 0, []) := rfl
set_option maxRecDepth 100000 in
theorem i200_1096 : INS 200 1096 = some (27, 1, 0, 0, .null, []) := rfl
set_option maxRecDepth 100000 in
theorem i200_1097 : INS 200 1097 = some (15, 3, 3, 0, .int 9, []) := rfl
set_option maxRecDepth 100000 in
theorem i200_1100 : INS 200 1100 = some (12, 3, 18, 0, .null, []) := rfl
set_option maxRecDepth 100000 in
theorem i200_1103 : INS 200 1103 = some (2, 1, 0, 0, .int 1, []) := rfl
set_option maxRecDepth 100000 in
theorem i200_1104 : INS 200 1104 = some (27, 1, 0, 0, .null, []) := rfl
theorem sh0 : SH 0 = (10, 0) := by decide +kernel
theorem sh1 : SH 1 = (20, 8) := by decide +kernel
theorem sh2 : SH 2 = (0, 0) := by decide +kernel
theorem sh3 : SH 3 = (24, 8) := by decide +kernel
theorem sh4 : SH 4 = (2, 0) := by decide +kernel
theorem sh5 : SH 5 = (23, 144) := by decide +kernel
theorem sh6 : SH 6 = (20, 21) := by decide +kernel
theorem sh154 : SH 154 = (25, 8) := by decide +kernel
theorem sh235 : SH 235 = (1, 0) := by decide +kernel
theorem sh236 : SH 236 = (21, 57744) := by decide +kernel
theorem sh237 : SH 237 = (21, 401) := by decide +kernel
theorem sh238 : SH 238 = (22, 144) := by decide +kernel
theorem sh239 : SH 239 = (22, 144) := by decide +kernel
theorem sh240 : SH 240 = (2, 0) := by decide +kernel
theorem sh241 : SH 241 = (23, 144) := by decide +kernel
theorem sh390 : SH 390 = (7, 0) := by decide +kernel
theorem sh391 : SH 391 = (20, 144) := by decide +kernel
theorem sh392 : SH 392 = (20, 144) := by decide +kernel
theorem sh393 : SH 393 = (5, 0) := by decide +kernel
theorem sh394 : SH 394 = (20, 8) := by decide +kernel
theorem sh395 : SH 395 = (21, 21) := by decide +kernel
theorem sh396 : SH 396 = (20, 8) := by decide +kernel
theorem sh397 : SH 397 = (11, 0) := by decide +kernel
theorem sh398 : SH 398 = (20, 8) := by decide +kernel
theorem sh399 : SH 399 = (20, 8) := by decide +kernel
theorem sh400 : SH 400 = (20, 8) := by decide +kernel
theorem sh401 : SH 401 = (20, 8) := by decide +kernel
theorem sh402 : SH 402 = (20, 16) := by decide +kernel
theorem sh403 : SH 403 = (20, 16) := by decide +kernel
theorem sh404 : SH 404 = (20, 8) := by decide +kernel
theorem sh405 : SH 405 = (20, 144) := by decide +kernel
theorem sh406 : SH 406 = (20, 144) := by decide +kernel
theorem sh407 : SH 407 = (20, 144) := by decide +kernel
theorem sh408 : SH 408 = (20, 144) := by decide +kernel
theorem sh409 : SH 409 = (20, 144) := by decide +kernel
theorem sh410 : SH 410 = (20, 144) := by decide +kernel
theorem sh411 : SH 411 = (20, 21) := by decide +kernel
theorem sh412 : SH 412 = (20, 432) := by decide +kernel
theorem sh413 : SH 413 = (20, 432) := by decide +kernel
theorem sh414 : SH 414 = (20, 432) := by decide +kernel
theorem sh415 : SH 415 = (20, 432) := by decide +kernel
theorem sh416 : SH 416 = (22, 432) := by decide +kernel
theorem sh417 : SH 417 = (20, 864) := by decide +kernel
theorem sh418 : SH 418 = (20, 432) := by decide +kernel
theorem sh419 : SH 419 = (20, 432) := by decide +kernel
theorem sh420 : SH 420 = (20, 8) := by decide +kernel
theorem sh421 : SH 421 = (20, 8) := by decide +kernel
theorem sh422 : SH 422 = (21, 800) := by decide +kernel
theorem sh423 : SH 423 = (21, 100) := by decide +kernel
theorem sh424 : SH 424 = (20, 8) := by decide +kernel
theorem sh425 : SH 425 = (20, 8) := by decide +kernel
theorem sh426 : SH 426 = (20, 4608) := by decide +kernel
theorem sh427 : SH 427 = (20, 144) := by decide +kernel
theorem sh428 : SH 428 = (20, 144) := by decide +kernel
theorem sh429 : SH 429 = (20, 144) := by decide +kernel
theorem sh430 : SH 430 = (20, 144) := by decide +kernel
theorem sh431 : SH 431 = (20, 144) := by decide +kernel
theorem sh432 : SH 432 = (20, 144) := by decide +kernel
theorem sh433 : SH 433 = (20, 144) := by decide +kernel
theorem sh434 : SH 434 = (20, 5) := by decide +kernel
theorem sh435 : SH 435 = (20, 720) := by decide +kernel
theorem sh436 : SH 436 = (22, 144) := by decide +kernel
theorem sh437 : SH 437 = (21, 21) := by decide +kernel
theorem sh438 : SH 438 = (21, 21) := by decide +kernel
theorem sh439 : SH 439 = (21, 21) := by decide +kernel
theorem sh440 : SH 440 = (21, 21) := by decide +kernel
theorem sh441 : SH 441 = (20, 8) := by decide +kernel
theorem sh442 : SH 442 = (20, 8) := by decide +kernel
theorem sh443 : SH 443 = (20, 144) := by decide +kernel
theorem lk0_0 : LKf 0 0 = some 1 := by decide +kernel
theorem lk0_1 : LKf 0 1 = some 2 := by decide +kernel
theorem lk0_2 : LKf 0 2 = some 4 := by decide +kernel
theorem lk0_3 : LKf 0 3 = some 154 := by decide +kernel
theorem lk0_4 : LKf 0 4 = some 235 := by decide +kernel
theorem lk0_5 : LKf 0 5 = some 390 := by decide +kernel
theorem lk0_6 : LKf 0 6 = some 393 := by decide +kernel
theorem lk2_0 : LKf 2 0 = some 3 := by decide +kernel
theorem lk4_1 : LKf 4 1 = some 5 := by decide +kernel
theorem lk4_2 : LKf 4 2 = some 6 := by decide +kernel
theorem lk235_0 : LKf 235 0 = some 240 := by decide +kernel
theorem lk235_1 : LKf 235 1 = some 236 := by decide +kernel
theorem lk235_2 : LKf 235 2 = some 237 := by decide +kernel
theorem lk235_3 : LKf 235 3 = some 238 := by decide +kernel
theorem lk235_4 : LKf 235 4 = some 239 := by decide +kernel
theorem lk240_1 : LKf 240 1 = some 241 := by decide +kernel
theorem lk390_0 : LKf 390 0 = some 391 := by decide +kernel
theorem lk390_1 : LKf 390 1 = some 392 := by decide +kernel
theorem lk393_0 : LKf 393 0 = some 394 := by decide +kernel
theorem lk393_1 : LKf 393 1 = some 395 := by decide +kernel
theorem lk393_2 : LKf 393 2 = some 396 := by decide +kernel
theorem lk397_0 : LKf 397 0 = some 398 := by decide +kernel
theorem lk397_2 : LKf 397 2 = some 399 := by decide +kernel
theorem lk397_3 : LKf 397 3 = some 400 := by decide +kernel
theorem lk397_4 : LKf 397 4 = some 401 := by decide +kernel
theorem lk397_5 : LKf 397 5 = some 402 := by decide +kernel
theorem lk397_6 : LKf 397 6 = some 403 := by decide +kernel
theorem lk397_7 : LKf 397 7 = some 404 := by decide +kernel
theorem lk397_8 : LKf 397 8 = some 405 := by decide +kernel
theorem lk397_9 : LKf 397 9 = some 406 := by decide +kernel
theorem lk397_10 : LKf 397 10 = some 407 := by decide +kernel
theorem lk397_11 : LKf 397 11 = some 408 := by decide +kernel
theorem lk397_12 : LKf 397 12 = some 409 := by decide +kernel
theorem lk397_13 : LKf 397 13 = some 410 := by decide +kernel
theorem lk397_15 : LKf 397 15 = some 411 := by decide +kernel
theorem lk397_16 : LKf 397 16 = some 412 := by decide +kernel
theorem lk397_17 : LKf 397 17 = some 413 := by decide +kernel
theorem lk397_18 : LKf 397 18 = some 414 := by decide +kernel
theorem lk397_19 : LKf 397 19 = some 415 := by decide +kernel
theorem lk397_20 : LKf 397 20 = some 416 := by decide +kernel
theorem lk397_21 : LKf 397 21 = some 417 := by decide +kernel
theorem lk397_22 : LKf 397 22 = some 418 := by decide +kernel
theorem lk397_23 : LKf 397 23 = some 419 := by decide +kernel
theorem lk397_24 : LKf 397 24 = some 420 := by decide +kernel
theorem lk397_25 : LKf 397 25 = some 421 := by decide +kernel
theorem lk397_26 : LKf 397 26 = some 422 := by decide +kernel
theorem lk397_27 : LKf 397 27 = some 423 := by decide +kernel
theorem lk397_28 : LKf 397 28 = some 424 := by decide +kernel
theorem lk397_29 : LKf 397 29 = some 425 := by decide +kernel
theorem lk397_30 : LKf 397 30 = some 426 := by decide +kernel
theorem lk397_31 : LKf 397 31 = some 427 := by decide +kernel
theorem lk397_32 : LKf 397 32 = some 428 := by decide +kernel
theorem lk397_33 : LKf 397 33 = some 429 := by decide +kernel
theorem lk397_34 : LKf 397 34 = some 430 := by decide +kernel
theorem lk397_37 : LKf 397 37 = some 431 := by decide +kernel
theorem lk397_38 : LKf 397 38 = some 432 := by decide +kernel
theorem lk397_39 : LKf 397 39 = some 433 := by decide +kernel
theorem lk397_41 : LKf 397 41 = some 434 := by decide +kernel
theorem lk397_42 : LKf 397 42 = some 435 := by decide +kernel
theorem lk397_43 : LKf 397 43 = some 436 := by decide +kernel
theorem lk397_44 : LKf 397 44 = some 437 := by decide +kernel
theorem lk397_45 : LKf 397 45 = some 438 := by decide +kernel
theorem lk397_46 : LKf 397 46 = some 439 := by decide +kernel
theorem lk397_47 : LKf 397 47 = some 440 := by decide +kernel
theorem lk397_48 : LKf 397 48 = some 441 := by decide +kernel
theorem lk397_49 : LKf 397 49 = some 442 := by decide +kernel
theorem lk397_50 : LKf 397 50 = some 443 := by decide +kernel
