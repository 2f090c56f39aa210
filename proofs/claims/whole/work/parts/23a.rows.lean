/-! The reference's methods without loops, as functions (made by wip/whole/m23.py). -/
set_option maxRecDepth 100000 in
theorem i124_0 : INS 124 0 = some (0, 1, 0, 2, .null, []) := rfl
set_option maxRecDepth 100000 in
theorem i124_1 : INS 124 1 = some (16, 3, 11, 0, .null, []) := rfl
set_option maxRecDepth 100000 in
theorem i124_4 : INS 124 4 = some (0, 1, 1, 0, .null, []) := rfl
set_option maxRecDepth 100000 in
theorem i124_5 : INS 124 5 = some (6, 1, 0, 0, .null, []) := rfl
set_option maxRecDepth 100000 in
theorem i124_6 : INS 124 6 = some (8, 1, 2, 0, .null, []) := rfl
set_option maxRecDepth 100000 in
theorem i124_7 : INS 124 7 = some (18, 1, 20, 0, .null, []) := rfl
set_option maxRecDepth 100000 in
theorem i124_8 : INS 124 8 = some (2, 1, 0, 0, .int 1, []) := rfl
set_option maxRecDepth 100000 in
theorem i124_9 : INS 124 9 = some (3, 1, 0, 0, .null, []) := rfl
set_option maxRecDepth 100000 in
theorem i124_10 : INS 124 10 = some (19, 1, 20, 0, .null, []) := rfl
set_option maxRecDepth 100000 in
theorem i124_11 : INS 124 11 = some (0, 1, 1, 0, .null, []) := rfl
set_option maxRecDepth 100000 in
theorem i124_12 : INS 124 12 = some (27, 1, 0, 0, .null, []) := rfl
set_option maxRecDepth 100000 in
theorem i127_0 : INS 127 0 = some (0, 1, 0, 0, .null, []) := rfl
set_option maxRecDepth 100000 in
theorem i127_1 : INS 127 1 = some (2, 2, 0, 0, .int 12, []) := rfl
set_option maxRecDepth 100000 in
theorem i127_3 : INS 127 3 = some (3, 1, 4, 0, .null, []) := rfl
set_option maxRecDepth 100000 in
theorem i127_4 : INS 127 4 = some (0, 1, 1, 0, .null, []) := rfl
set_option maxRecDepth 100000 in
theorem i127_5 : INS 127 5 = some (2, 1, 0, 0, .int 1, []) := rfl
set_option maxRecDepth 100000 in
theorem i127_6 : INS 127 6 = some (10, 3, 13, 1, .null, []) := rfl
set_option maxRecDepth 100000 in
theorem i127_9 : INS 127 9 = some (2, 1, 0, 0, .int 1, []) := rfl
set_option maxRecDepth 100000 in
theorem i127_10 : INS 127 10 = some (12, 3, 23, 0, .null, []) := rfl
set_option maxRecDepth 100000 in
theorem i127_13 : INS 127 13 = some (0, 1, 1, 0, .null, []) := rfl
set_option maxRecDepth 100000 in
theorem i127_14 : INS 127 14 = some (2, 1, 0, 0, .int 3, []) := rfl
set_option maxRecDepth 100000 in
theorem i127_15 : INS 127 15 = some (10, 3, 22, 1, .null, []) := rfl
set_option maxRecDepth 100000 in
theorem i127_18 : INS 127 18 = some (2, 1, 0, 0, .int (-1), []) := rfl
set_option maxRecDepth 100000 in
theorem i127_19 : INS 127 19 = some (12, 3, 23, 0, .null, []) := rfl
set_option maxRecDepth 100000 in
theorem i127_22 : INS 127 22 = some (2, 1, 0, 0, .int 0, []) := rfl
set_option maxRecDepth 100000 in
theorem i127_23 : INS 127 23 = some (3, 1, 0, 0, .null, []) := rfl
set_option maxRecDepth 100000 in
theorem i127_24 : INS 127 24 = some (1, 1, 2, 0, .null, []) := rfl
set_option maxRecDepth 100000 in
theorem i127_25 : INS 127 25 = some (0, 1, 0, 0, .null, []) := rfl
set_option maxRecDepth 100000 in
theorem i127_26 : INS 127 26 = some (2, 2, 0, 0, .int 12, []) := rfl
set_option maxRecDepth 100000 in
theorem i127_28 : INS 127 28 = some (3, 1, 3, 0, .null, []) := rfl
set_option maxRecDepth 100000 in
theorem i127_29 : INS 127 29 = some (0, 1, 1, 0, .null, []) := rfl
set_option maxRecDepth 100000 in
theorem i127_30 : INS 127 30 = some (2, 1, 0, 0, .int 2, []) := rfl
set_option maxRecDepth 100000 in
theorem i127_31 : INS 127 31 = some (10, 3, 38, 1, .null, []) := rfl
set_option maxRecDepth 100000 in
theorem i127_34 : INS 127 34 = some (2, 1, 0, 0, .int 1, []) := rfl
set_option maxRecDepth 100000 in
theorem i127_35 : INS 127 35 = some (12, 3, 47, 0, .null, []) := rfl
set_option maxRecDepth 100000 in
theorem i127_38 : INS 127 38 = some (0, 1, 1, 0, .null, []) := rfl
set_option maxRecDepth 100000 in
theorem i127_39 : INS 127 39 = some (9, 3, 46, 1, .null, []) := rfl
set_option maxRecDepth 100000 in
theorem i127_42 : INS 127 42 = some (2, 1, 0, 0, .int (-1), []) := rfl
set_option maxRecDepth 100000 in
theorem i127_43 : INS 127 43 = some (12, 3, 47, 0, .null, []) := rfl
set_option maxRecDepth 100000 in
theorem i127_46 : INS 127 46 = some (2, 1, 0, 0, .int 0, []) := rfl
set_option maxRecDepth 100000 in
theorem i127_47 : INS 127 47 = some (3, 1, 0, 0, .null, []) := rfl
set_option maxRecDepth 100000 in
theorem i127_48 : INS 127 48 = some (1, 1, 3, 0, .null, []) := rfl
set_option maxRecDepth 100000 in
theorem i127_49 : INS 127 49 = some (0, 1, 2, 0, .null, []) := rfl
set_option maxRecDepth 100000 in
theorem i127_50 : INS 127 50 = some (2, 1, 0, 0, .int 0, []) := rfl
set_option maxRecDepth 100000 in
theorem i127_51 : INS 127 51 = some (2, 2, 0, 0, .int 11, []) := rfl
set_option maxRecDepth 100000 in
theorem i127_53 : INS 127 53 = some (24, 3, 123, 2, .null, []) := rfl
set_option maxRecDepth 100000 in
theorem i127_56 : INS 127 56 = some (9, 3, 78, 0, .null, []) := rfl
set_option maxRecDepth 100000 in
theorem i127_59 : INS 127 59 = some (0, 1, 3, 0, .null, []) := rfl
set_option maxRecDepth 100000 in
theorem i127_60 : INS 127 60 = some (2, 1, 0, 0, .int 0, []) := rfl
set_option maxRecDepth 100000 in
theorem i127_61 : INS 127 61 = some (2, 2, 0, 0, .int 11, []) := rfl
set_option maxRecDepth 100000 in
theorem i127_63 : INS 127 63 = some (24, 3, 123, 2, .null, []) := rfl
set_option maxRecDepth 100000 in
theorem i127_66 : INS 127 66 = some (9, 3, 78, 0, .null, []) := rfl
set_option maxRecDepth 100000 in
theorem i127_69 : INS 127 69 = some (2, 2, 0, 0, .int 12, []) := rfl
set_option maxRecDepth 100000 in
theorem i127_71 : INS 127 71 = some (0, 1, 3, 0, .null, []) := rfl
set_option maxRecDepth 100000 in
theorem i127_72 : INS 127 72 = some (3, 1, 2, 0, .null, []) := rfl
set_option maxRecDepth 100000 in
theorem i127_73 : INS 127 73 = some (0, 1, 2, 0, .null, []) := rfl
set_option maxRecDepth 100000 in
theorem i127_74 : INS 127 74 = some (3, 1, 0, 0, .null, []) := rfl
set_option maxRecDepth 100000 in
theorem i127_75 : INS 127 75 = some (12, 3, 79, 0, .null, []) := rfl
set_option maxRecDepth 100000 in
theorem i127_78 : INS 127 78 = some (2, 1, 0, 0, .int (-1), []) := rfl
set_option maxRecDepth 100000 in
theorem i127_79 : INS 127 79 = some (27, 1, 0, 0, .null, []) := rfl
set_option maxRecDepth 100000 in
theorem i128_0 : INS 128 0 = some (0, 1, 0, 2, .null, []) := rfl
set_option maxRecDepth 100000 in
theorem i128_1 : INS 128 1 = some (16, 3, 11, 8, .null, []) := rfl
set_option maxRecDepth 100000 in
theorem i128_4 : INS 128 4 = some (0, 1, 1, 0, .null, []) := rfl
set_option maxRecDepth 100000 in
theorem i128_5 : INS 128 5 = some (18, 1, 20, 0, .null, []) := rfl
set_option maxRecDepth 100000 in
theorem i128_6 : INS 128 6 = some (1, 1, 3, 0, .null, []) := rfl
set_option maxRecDepth 100000 in
theorem i128_7 : INS 128 7 = some (0, 1, 3, 0, .null, []) := rfl
set_option maxRecDepth 100000 in
theorem i128_8 : INS 128 8 = some (2, 1, 0, 0, .int 4, []) := rfl
set_option maxRecDepth 100000 in
theorem i128_9 : INS 128 9 = some (10, 3, 34, 1, .null, []) := rfl
set_option maxRecDepth 100000 in
theorem i128_12 : INS 128 12 = some (0, 1, 0, 2, .null, []) := rfl
set_option maxRecDepth 100000 in
theorem i128_13 : INS 128 13 = some (16, 3, 11, 9, .null, []) := rfl
set_option maxRecDepth 100000 in
theorem i128_16 : INS 128 16 = some (0, 1, 1, 0, .null, []) := rfl
set_option maxRecDepth 100000 in
theorem i128_17 : INS 128 17 = some (18, 1, 20, 0, .null, []) := rfl
set_option maxRecDepth 100000 in
theorem i128_18 : INS 128 18 = some (0, 1, 2, 0, .null, []) := rfl
set_option maxRecDepth 100000 in
theorem i128_19 : INS 128 19 = some (3, 1, 9, 0, .null, []) := rfl
set_option maxRecDepth 100000 in
theorem i128_20 : INS 128 20 = some (2, 1, 0, 0, .int 1, []) := rfl
set_option maxRecDepth 100000 in
theorem i128_21 : INS 128 21 = some (3, 1, 5, 0, .null, []) := rfl
set_option maxRecDepth 100000 in
theorem i128_22 : INS 128 22 = some (2, 1, 0, 0, .int 1, []) := rfl
set_option maxRecDepth 100000 in
theorem i128_23 : INS 128 23 = some (10, 3, 30, 1, .null, []) := rfl
set_option maxRecDepth 100000 in
theorem i128_26 : INS 128 26 = some (2, 1, 0, 0, .int 1, []) := rfl
set_option maxRecDepth 100000 in
theorem i128_27 : INS 128 27 = some (12, 3, 59, 0, .null, []) := rfl
set_option maxRecDepth 100000 in
theorem i128_30 : INS 128 30 = some (2, 1, 0, 0, .int 0, []) := rfl
set_option maxRecDepth 100000 in
theorem i128_31 : INS 128 31 = some (12, 3, 59, 0, .null, []) := rfl
set_option maxRecDepth 100000 in
theorem i128_34 : INS 128 34 = some (0, 1, 3, 0, .null, []) := rfl
set_option maxRecDepth 100000 in
theorem i128_35 : INS 128 35 = some (9, 3, 58, 0, .null, []) := rfl
set_option maxRecDepth 100000 in
theorem i128_38 : INS 128 38 = some (0, 1, 3, 0, .null, []) := rfl
set_option maxRecDepth 100000 in
theorem i128_39 : INS 128 39 = some (2, 2, 0, 0, .int 7, []) := rfl
set_option maxRecDepth 100000 in
theorem i128_41 : INS 128 41 = some (10, 3, 58, 0, .null, []) := rfl
set_option maxRecDepth 100000 in
theorem i128_44 : INS 128 44 = some (0, 1, 0, 2, .null, []) := rfl
set_option maxRecDepth 100000 in
theorem i128_45 : INS 128 45 = some (16, 3, 11, 9, .null, []) := rfl
set_option maxRecDepth 100000 in
theorem i128_48 : INS 128 48 = some (0, 1, 1, 0, .null, []) := rfl
set_option maxRecDepth 100000 in
theorem i128_49 : INS 128 49 = some (18, 1, 20, 0, .null, []) := rfl
set_option maxRecDepth 100000 in
theorem i128_50 : INS 128 50 = some (0, 1, 2, 0, .null, []) := rfl
set_option maxRecDepth 100000 in
theorem i128_51 : INS 128 51 = some (10, 3, 58, 1, .null, []) := rfl
set_option maxRecDepth 100000 in
theorem i128_54 : INS 128 54 = some (2, 1, 0, 0, .int 1, []) := rfl
set_option maxRecDepth 100000 in
theorem i128_55 : INS 128 55 = some (12, 3, 59, 0, .null, []) := rfl
set_option maxRecDepth 100000 in
theorem i128_58 : INS 128 58 = some (2, 1, 0, 0, .int 0, []) := rfl
set_option maxRecDepth 100000 in
theorem i128_59 : INS 128 59 = some (27, 1, 0, 0, .null, []) := rfl
set_option maxRecDepth 100000 in
theorem i130_0 : INS 130 0 = some (0, 1, 1, 0, .null, []) := rfl
set_option maxRecDepth 100000 in
theorem i130_1 : INS 130 1 = some (24, 3, 126, 2, .null, []) := rfl
set_option maxRecDepth 100000 in
theorem i130_4 : INS 130 4 = some (9, 3, 59, 0, .null, []) := rfl
set_option maxRecDepth 100000 in
theorem i130_7 : INS 130 7 = some (0, 1, 2, 0, .null, []) := rfl
set_option maxRecDepth 100000 in
theorem i130_8 : INS 130 8 = some (2, 1, 0, 0, .int 1, []) := rfl
set_option maxRecDepth 100000 in
theorem i130_9 : INS 130 9 = some (2, 1, 0, 0, .int 4, []) := rfl
set_option maxRecDepth 100000 in
theorem i130_10 : INS 130 10 = some (24, 3, 123, 2, .null, []) := rfl
set_option maxRecDepth 100000 in
theorem i130_13 : INS 130 13 = some (9, 3, 59, 0, .null, []) := rfl
set_option maxRecDepth 100000 in
theorem i130_16 : INS 130 16 = some (0, 1, 3, 0, .null, []) := rfl
set_option maxRecDepth 100000 in
theorem i130_17 : INS 130 17 = some (2, 1, 0, 0, .int 1, []) := rfl
set_option maxRecDepth 100000 in
theorem i130_18 : INS 130 18 = some (2, 2, 0, 0, .int 60, []) := rfl
set_option maxRecDepth 100000 in
theorem i130_20 : INS 130 20 = some (24, 3, 123, 2, .null, []) := rfl
set_option maxRecDepth 100000 in
theorem i130_23 : INS 130 23 = some (9, 3, 59, 0, .null, []) := rfl
set_option maxRecDepth 100000 in
theorem i130_26 : INS 130 26 = some (0, 2, 4, 0, .null, []) := rfl
set_option maxRecDepth 100000 in
theorem i130_28 : INS 130 28 = some (24, 3, 126, 2, .null, []) := rfl
set_option maxRecDepth 100000 in
theorem i130_31 : INS 130 31 = some (9, 3, 59, 0, .null, []) := rfl
set_option maxRecDepth 100000 in
theorem i130_34 : INS 130 34 = some (0, 2, 5, 0, .null, []) := rfl
set_option maxRecDepth 100000 in
theorem i130_36 : INS 130 36 = some (2, 1, 0, 0, .int 1, []) := rfl
set_option maxRecDepth 100000 in
theorem i130_37 : INS 130 37 = some (2, 1, 0, 0, .int 4, []) := rfl
set_option maxRecDepth 100000 in
theorem i130_38 : INS 130 38 = some (24, 3, 123, 2, .null, []) := rfl
set_option maxRecDepth 100000 in
theorem i130_41 : INS 130 41 = some (9, 3, 59, 0, .null, []) := rfl
set_option maxRecDepth 100000 in
theorem i130_44 : INS 130 44 = some (0, 2, 8, 0, .null, []) := rfl
set_option maxRecDepth 100000 in
theorem i130_46 : INS 130 46 = some (2, 1, 0, 0, .int 0, []) := rfl
set_option maxRecDepth 100000 in
theorem i130_47 : INS 130 47 = some (2, 2, 0, 0, .int 100, []) := rfl
set_option maxRecDepth 100000 in
theorem i130_49 : INS 130 49 = some (24, 3, 123, 2, .null, []) := rfl
set_option maxRecDepth 100000 in
theorem i130_52 : INS 130 52 = some (9, 3, 59, 0, .null, []) := rfl
set_option maxRecDepth 100000 in
theorem i130_55 : INS 130 55 = some (2, 1, 0, 0, .int 1, []) := rfl
set_option maxRecDepth 100000 in
theorem i130_56 : INS 130 56 = some (12, 3, 60, 0, .null, []) := rfl
set_option maxRecDepth 100000 in
theorem i130_59 : INS 130 59 = some (2, 1, 0, 0, .int 0, []) := rfl
set_option maxRecDepth 100000 in
theorem i130_60 : INS 130 60 = some (1, 2, 9, 0, .null, []) := rfl
set_option maxRecDepth 100000 in
theorem i130_62 : INS 130 62 = some (0, 2, 9, 0, .null, []) := rfl
set_option maxRecDepth 100000 in
theorem i130_64 : INS 130 64 = some (9, 3, 113, 0, .null, []) := rfl
set_option maxRecDepth 100000 in
theorem i130_67 : INS 130 67 = some (0, 2, 6, 0, .null, []) := rfl
set_option maxRecDepth 100000 in
theorem i130_69 : INS 130 69 = some (9, 3, 90, 0, .null, []) := rfl
set_option maxRecDepth 100000 in
theorem i130_72 : INS 130 72 = some (0, 2, 6, 0, .null, []) := rfl
set_option maxRecDepth 100000 in
theorem i130_74 : INS 130 74 = some (24, 3, 126, 2, .null, []) := rfl
set_option maxRecDepth 100000 in
theorem i130_77 : INS 130 77 = some (9, 3, 113, 0, .null, []) := rfl
set_option maxRecDepth 100000 in
theorem i130_80 : INS 130 80 = some (0, 2, 7, 0, .null, []) := rfl
set_option maxRecDepth 100000 in
theorem i130_82 : INS 130 82 = some (2, 1, 0, 0, .int 1, []) := rfl
set_option maxRecDepth 100000 in
theorem i130_83 : INS 130 83 = some (2, 1, 0, 0, .int 4, []) := rfl
set_option maxRecDepth 100000 in
theorem i130_84 : INS 130 84 = some (24, 3, 123, 2, .null, []) := rfl
set_option maxRecDepth 100000 in
theorem i130_87 : INS 130 87 = some (9, 3, 113, 0, .null, []) := rfl
set_option maxRecDepth 100000 in
theorem i130_90 : INS 130 90 = some (0, 2, 4, 0, .null, []) := rfl
set_option maxRecDepth 100000 in
theorem i130_92 : INS 130 92 = some (0, 1, 1, 0, .null, []) := rfl
set_option maxRecDepth 100000 in
theorem i130_93 : INS 130 93 = some (10, 3, 113, 0, .null, []) := rfl
set_option maxRecDepth 100000 in
theorem i130_96 : INS 130 96 = some (0, 2, 6, 0, .null, []) := rfl
set_option maxRecDepth 100000 in
theorem i130_98 : INS 130 98 = some (0, 1, 1, 0, .null, []) := rfl
set_option maxRecDepth 100000 in
theorem i130_99 : INS 130 99 = some (10, 3, 113, 0, .null, []) := rfl
set_option maxRecDepth 100000 in
theorem i130_102 : INS 130 102 = some (0, 2, 4, 0, .null, []) := rfl
set_option maxRecDepth 100000 in
theorem i130_104 : INS 130 104 = some (0, 2, 6, 0, .null, []) := rfl
set_option maxRecDepth 100000 in
theorem i130_106 : INS 130 106 = some (10, 3, 113, 0, .null, []) := rfl
set_option maxRecDepth 100000 in
theorem i130_109 : INS 130 109 = some (2, 1, 0, 0, .int 1, []) := rfl
set_option maxRecDepth 100000 in
theorem i130_110 : INS 130 110 = some (12, 3, 114, 0, .null, []) := rfl
set_option maxRecDepth 100000 in
theorem i130_113 : INS 130 113 = some (2, 1, 0, 0, .int 0, []) := rfl
set_option maxRecDepth 100000 in
theorem i130_114 : INS 130 114 = some (1, 2, 9, 0, .null, []) := rfl
set_option maxRecDepth 100000 in
theorem i130_116 : INS 130 116 = some (0, 2, 9, 0, .null, []) := rfl
set_option maxRecDepth 100000 in
theorem i130_118 : INS 130 118 = some (9, 3, 130, 0, .null, []) := rfl
set_option maxRecDepth 100000 in
theorem i130_121 : INS 130 121 = some (0, 1, 0, 2, .null, []) := rfl
set_option maxRecDepth 100000 in
theorem i130_122 : INS 130 122 = some (0, 1, 1, 0, .null, []) := rfl
set_option maxRecDepth 100000 in
theorem i130_123 : INS 130 123 = some (24, 3, 129, 0, .null, []) := rfl
set_option maxRecDepth 100000 in
theorem i130_130 : INS 130 130 = some (0, 1, 0, 2, .null, []) := rfl
set_option maxRecDepth 100000 in
theorem i130_131 : INS 130 131 = some (2, 2, 0, 0, .int (-6), []) := rfl
set_option maxRecDepth 100000 in
theorem i130_133 : INS 130 133 = some (24, 3, 124, 0, .null, []) := rfl
set_option maxRecDepth 100000 in
theorem i130_136 : INS 130 136 = some (27, 1, 0, 0, .null, []) := rfl
set_option maxRecDepth 100000 in
theorem i131_0 : INS 131 0 = some (0, 1, 0, 0, .null, []) := rfl
set_option maxRecDepth 100000 in
theorem i131_1 : INS 131 1 = some (2, 1, 0, 0, .int 1, []) := rfl
set_option maxRecDepth 100000 in
theorem i131_2 : INS 131 2 = some (3, 1, 5, 0, .null, []) := rfl
set_option maxRecDepth 100000 in
theorem i131_3 : INS 131 3 = some (0, 1, 0, 0, .null, []) := rfl
set_option maxRecDepth 100000 in
theorem i131_4 : INS 131 4 = some (2, 1, 0, 0, .int 1, []) := rfl
set_option maxRecDepth 100000 in
theorem i131_5 : INS 131 5 = some (3, 1, 9, 0, .null, []) := rfl
set_option maxRecDepth 100000 in
theorem i131_6 : INS 131 6 = some (2, 1, 0, 0, .int 1, []) := rfl
set_option maxRecDepth 100000 in
theorem i131_7 : INS 131 7 = some (3, 1, 5, 0, .null, []) := rfl
set_option maxRecDepth 100000 in
theorem i131_8 : INS 131 8 = some (3, 1, 0, 0, .null, []) := rfl
set_option maxRecDepth 100000 in
theorem i131_9 : INS 131 9 = some (0, 1, 0, 0, .null, []) := rfl
set_option maxRecDepth 100000 in
theorem i131_10 : INS 131 10 = some (2, 1, 0, 0, .int 2, []) := rfl
set_option maxRecDepth 100000 in
theorem i131_11 : INS 131 11 = some (3, 1, 9, 0, .null, []) := rfl
set_option maxRecDepth 100000 in
theorem i131_12 : INS 131 12 = some (2, 1, 0, 0, .int 1, []) := rfl
set_option maxRecDepth 100000 in
theorem i131_13 : INS 131 13 = some (3, 1, 5, 0, .null, []) := rfl
set_option maxRecDepth 100000 in
theorem i131_14 : INS 131 14 = some (3, 1, 0, 0, .null, []) := rfl
set_option maxRecDepth 100000 in
theorem i131_15 : INS 131 15 = some (0, 1, 0, 0, .null, []) := rfl
set_option maxRecDepth 100000 in
theorem i131_16 : INS 131 16 = some (2, 1, 0, 0, .int 3, []) := rfl
set_option maxRecDepth 100000 in
theorem i131_17 : INS 131 17 = some (3, 1, 9, 0, .null, []) := rfl
set_option maxRecDepth 100000 in
theorem i131_18 : INS 131 18 = some (2, 1, 0, 0, .int 1, []) := rfl
set_option maxRecDepth 100000 in
theorem i131_19 : INS 131 19 = some (3, 1, 5, 0, .null, []) := rfl
set_option maxRecDepth 100000 in
theorem i131_20 : INS 131 20 = some (3, 1, 0, 0, .null, []) := rfl
set_option maxRecDepth 100000 in
theorem i131_21 : INS 131 21 = some (27, 1, 0, 0, .null, []) := rfl
set_option maxRecDepth 100000 in
theorem i132_0 : INS 132 0 = some (0, 1, 1, 0, .null, []) := rfl
set_option maxRecDepth 100000 in
theorem i132_1 : INS 132 1 = some (24, 3, 125, 2, .null, []) := rfl
set_option maxRecDepth 100000 in
theorem i132_4 : INS 132 4 = some (9, 3, 28, 0, .null, []) := rfl
set_option maxRecDepth 100000 in
theorem i132_7 : INS 132 7 = some (0, 1, 2, 0, .null, []) := rfl
set_option maxRecDepth 100000 in
theorem i132_8 : INS 132 8 = some (2, 2, 0, 0, .int 6, []) := rfl
set_option maxRecDepth 100000 in
theorem i132_10 : INS 132 10 = some (10, 3, 30, 1, .null, []) := rfl
set_option maxRecDepth 100000 in
theorem i132_13 : INS 132 13 = some (0, 2, 4, 0, .null, []) := rfl
set_option maxRecDepth 100000 in
theorem i132_15 : INS 132 15 = some (2, 1, 0, 0, .int 0, []) := rfl
set_option maxRecDepth 100000 in
theorem i132_16 : INS 132 16 = some (0, 1, 0, 2, .null, []) := rfl
set_option maxRecDepth 100000 in
theorem i132_17 : INS 132 17 = some (16, 3, 11, 1, .null, []) := rfl
set_option maxRecDepth 100000 in
theorem i132_20 : INS 132 20 = some (2, 1, 0, 0, .int 1, []) := rfl
set_option maxRecDepth 100000 in
theorem i132_21 : INS 132 21 = some (3, 1, 1, 0, .null, []) := rfl
set_option maxRecDepth 100000 in
theorem i132_22 : INS 132 22 = some (24, 3, 123, 2, .null, []) := rfl
set_option maxRecDepth 100000 in
theorem i132_25 : INS 132 25 = some (9, 3, 30, 1, .null, []) := rfl
set_option maxRecDepth 100000 in
theorem i132_28 : INS 132 28 = some (2, 1, 0, 0, .int (-1), []) := rfl
set_option maxRecDepth 100000 in
theorem i132_29 : INS 132 29 = some (27, 1, 0, 0, .null, []) := rfl
set_option maxRecDepth 100000 in
theorem i132_30 : INS 132 30 = some (0, 1, 2, 0, .null, []) := rfl
set_option maxRecDepth 100000 in
theorem i132_31 : INS 132 31 = some (2, 1, 0, 0, .int 1, []) := rfl
set_option maxRecDepth 100000 in
theorem i132_32 : INS 132 32 = some (2, 2, 0, 0, .int 7, []) := rfl
set_option maxRecDepth 100000 in
theorem i132_34 : INS 132 34 = some (24, 3, 123, 2, .null, []) := rfl
set_option maxRecDepth 100000 in
theorem i132_37 : INS 132 37 = some (9, 3, 89, 0, .null, []) := rfl
set_option maxRecDepth 100000 in
theorem i132_40 : INS 132 40 = some (0, 1, 2, 0, .null, []) := rfl
set_option maxRecDepth 100000 in
theorem i132_41 : INS 132 41 = some (2, 2, 0, 0, .int 7, []) := rfl
set_option maxRecDepth 100000 in
theorem i132_43 : INS 132 43 = some (10, 3, 85, 0, .null, []) := rfl
set_option maxRecDepth 100000 in
theorem i132_46 : INS 132 46 = some (0, 1, 2, 0, .null, []) := rfl
set_option maxRecDepth 100000 in
theorem i132_47 : INS 132 47 = some (2, 1, 0, 0, .int 4, []) := rfl
set_option maxRecDepth 100000 in
theorem i132_48 : INS 132 48 = some (10, 3, 76, 1, .null, []) := rfl
set_option maxRecDepth 100000 in
theorem i132_51 : INS 132 51 = some (0, 1, 3, 0, .null, []) := rfl
set_option maxRecDepth 100000 in
theorem i132_52 : INS 132 52 = some (2, 1, 0, 0, .int 1, []) := rfl
set_option maxRecDepth 100000 in
theorem i132_53 : INS 132 53 = some (2, 2, 0, 0, .int 15, []) := rfl
set_option maxRecDepth 100000 in
theorem i132_55 : INS 132 55 = some (24, 3, 123, 2, .null, []) := rfl
set_option maxRecDepth 100000 in
theorem i132_58 : INS 132 58 = some (9, 3, 89, 0, .null, []) := rfl
set_option maxRecDepth 100000 in
theorem i132_61 : INS 132 61 = some (0, 1, 3, 0, .null, []) := rfl
set_option maxRecDepth 100000 in
theorem i132_62 : INS 132 62 = some (24, 3, 131, 2, .null, []) := rfl
set_option maxRecDepth 100000 in
theorem i132_65 : INS 132 65 = some (2, 1, 0, 0, .int 2, []) := rfl
set_option maxRecDepth 100000 in
theorem i132_66 : INS 132 66 = some (2, 1, 0, 0, .int 3, []) := rfl
set_option maxRecDepth 100000 in
theorem i132_67 : INS 132 67 = some (24, 3, 123, 2, .null, []) := rfl
set_option maxRecDepth 100000 in
theorem i132_70 : INS 132 70 = some (9, 3, 89, 0, .null, []) := rfl
set_option maxRecDepth 100000 in
theorem i132_73 : INS 132 73 = some (12, 3, 85, 0, .null, []) := rfl
set_option maxRecDepth 100000 in
theorem i132_76 : INS 132 76 = some (0, 1, 3, 0, .null, []) := rfl
set_option maxRecDepth 100000 in
theorem i132_77 : INS 132 77 = some (2, 1, 0, 0, .int 0, []) := rfl
set_option maxRecDepth 100000 in
theorem i132_78 : INS 132 78 = some (2, 1, 0, 0, .int 3, []) := rfl
set_option maxRecDepth 100000 in
theorem i132_79 : INS 132 79 = some (24, 3, 123, 2, .null, []) := rfl
set_option maxRecDepth 100000 in
theorem i132_82 : INS 132 82 = some (9, 3, 89, 0, .null, []) := rfl
set_option maxRecDepth 100000 in
theorem i132_85 : INS 132 85 = some (2, 1, 0, 0, .int 1, []) := rfl
set_option maxRecDepth 100000 in
theorem i132_86 : INS 132 86 = some (12, 3, 90, 0, .null, []) := rfl
set_option maxRecDepth 100000 in
theorem i132_89 : INS 132 89 = some (2, 1, 0, 0, .int 0, []) := rfl
set_option maxRecDepth 100000 in
theorem i132_90 : INS 132 90 = some (1, 2, 6, 0, .null, []) := rfl
set_option maxRecDepth 100000 in
theorem i132_92 : INS 132 92 = some (0, 2, 6, 0, .null, []) := rfl
set_option maxRecDepth 100000 in
theorem i132_94 : INS 132 94 = some (9, 3, 125, 0, .null, []) := rfl
set_option maxRecDepth 100000 in
theorem i132_97 : INS 132 97 = some (0, 1, 2, 0, .null, []) := rfl
set_option maxRecDepth 100000 in
theorem i132_98 : INS 132 98 = some (2, 1, 0, 0, .int 5, []) := rfl
set_option maxRecDepth 100000 in
theorem i132_99 : INS 132 99 = some (10, 3, 121, 1, .null, []) := rfl
set_option maxRecDepth 100000 in
theorem i132_102 : INS 132 102 = some (0, 2, 4, 0, .null, []) := rfl
set_option maxRecDepth 100000 in
theorem i132_104 : INS 132 104 = some (24, 3, 126, 2, .null, []) := rfl
set_option maxRecDepth 100000 in
theorem i132_107 : INS 132 107 = some (9, 3, 125, 0, .null, []) := rfl
set_option maxRecDepth 100000 in
theorem i132_110 : INS 132 110 = some (0, 2, 5, 0, .null, []) := rfl
set_option maxRecDepth 100000 in
theorem i132_112 : INS 132 112 = some (2, 1, 0, 0, .int 1, []) := rfl
set_option maxRecDepth 100000 in
theorem i132_113 : INS 132 113 = some (2, 2, 0, 0, .int 60, []) := rfl
set_option maxRecDepth 100000 in
theorem i132_115 : INS 132 115 = some (24, 3, 123, 2, .null, []) := rfl
set_option maxRecDepth 100000 in
theorem i132_118 : INS 132 118 = some (9, 3, 125, 0, .null, []) := rfl
set_option maxRecDepth 100000 in
theorem i132_121 : INS 132 121 = some (2, 1, 0, 0, .int 1, []) := rfl
set_option maxRecDepth 100000 in
theorem i132_122 : INS 132 122 = some (12, 3, 126, 0, .null, []) := rfl
set_option maxRecDepth 100000 in
theorem i132_125 : INS 132 125 = some (2, 1, 0, 0, .int 0, []) := rfl
set_option maxRecDepth 100000 in
theorem i132_126 : INS 132 126 = some (1, 2, 6, 0, .null, []) := rfl
set_option maxRecDepth 100000 in
theorem i132_128 : INS 132 128 = some (0, 2, 6, 0, .null, []) := rfl
set_option maxRecDepth 100000 in
theorem i132_130 : INS 132 130 = some (9, 3, 146, 0, .null, []) := rfl
set_option maxRecDepth 100000 in
theorem i132_133 : INS 132 133 = some (0, 1, 0, 2, .null, []) := rfl
set_option maxRecDepth 100000 in
theorem i132_134 : INS 132 134 = some (16, 3, 11, 8, .null, []) := rfl
set_option maxRecDepth 100000 in
theorem i132_137 : INS 132 137 = some (0, 1, 1, 0, .null, []) := rfl
set_option maxRecDepth 100000 in
theorem i132_138 : INS 132 138 = some (18, 1, 20, 0, .null, []) := rfl
set_option maxRecDepth 100000 in
theorem i132_139 : INS 132 139 = some (9, 3, 146, 1, .null, []) := rfl
set_option maxRecDepth 100000 in
theorem i132_142 : INS 132 142 = some (2, 1, 0, 0, .int 1, []) := rfl
set_option maxRecDepth 100000 in
theorem i132_143 : INS 132 143 = some (12, 3, 148, 0, .null, []) := rfl
set_option maxRecDepth 100000 in
theorem i132_146 : INS 132 146 = some (2, 2, 0, 0, .int (-6), []) := rfl
set_option maxRecDepth 100000 in
theorem i132_148 : INS 132 148 = some (27, 1, 0, 0, .null, []) := rfl
set_option maxRecDepth 100000 in
theorem i133_0 : INS 133 0 = some (0, 1, 0, 2, .null, []) := rfl
set_option maxRecDepth 100000 in
theorem i133_1 : INS 133 1 = some (16, 3, 11, 8, .null, []) := rfl
set_option maxRecDepth 100000 in
theorem i133_4 : INS 133 4 = some (0, 1, 1, 0, .null, []) := rfl
set_option maxRecDepth 100000 in
theorem i133_5 : INS 133 5 = some (0, 1, 2, 0, .null, []) := rfl
set_option maxRecDepth 100000 in
theorem i133_6 : INS 133 6 = some (19, 1, 20, 0, .null, []) := rfl
set_option maxRecDepth 100000 in
theorem i133_7 : INS 133 7 = some (0, 1, 0, 2, .null, []) := rfl
set_option maxRecDepth 100000 in
theorem i133_8 : INS 133 8 = some (16, 3, 11, 9, .null, []) := rfl
set_option maxRecDepth 100000 in
theorem i133_11 : INS 133 11 = some (0, 1, 1, 0, .null, []) := rfl
set_option maxRecDepth 100000 in
theorem i133_12 : INS 133 12 = some (0, 1, 2, 0, .null, []) := rfl
set_option maxRecDepth 100000 in
theorem i133_13 : INS 133 13 = some (2, 2, 0, 0, .int 7, []) := rfl
set_option maxRecDepth 100000 in
theorem i133_15 : INS 133 15 = some (10, 3, 22, 1, .null, []) := rfl
set_option maxRecDepth 100000 in
theorem i133_18 : INS 133 18 = some (2, 1, 0, 0, .int 0, []) := rfl
set_option maxRecDepth 100000 in
theorem i133_19 : INS 133 19 = some (12, 3, 23, 0, .null, []) := rfl
set_option maxRecDepth 100000 in
theorem i133_22 : INS 133 22 = some (0, 1, 3, 0, .null, []) := rfl
set_option maxRecDepth 100000 in
theorem i133_23 : INS 133 23 = some (19, 1, 20, 0, .null, []) := rfl
set_option maxRecDepth 100000 in
theorem i133_24 : INS 133 24 = some (0, 1, 0, 2, .null, []) := rfl
set_option maxRecDepth 100000 in
theorem i133_25 : INS 133 25 = some (16, 3, 11, 10, .null, []) := rfl
set_option maxRecDepth 100000 in
theorem i133_28 : INS 133 28 = some (0, 1, 1, 0, .null, []) := rfl
set_option maxRecDepth 100000 in
theorem i133_29 : INS 133 29 = some (0, 1, 2, 0, .null, []) := rfl
set_option maxRecDepth 100000 in
theorem i133_30 : INS 133 30 = some (2, 1, 0, 0, .int 5, []) := rfl
set_option maxRecDepth 100000 in
theorem i133_31 : INS 133 31 = some (10, 3, 40, 0, .null, []) := rfl
set_option maxRecDepth 100000 in
theorem i133_34 : INS 133 34 = some (0, 1, 2, 0, .null, []) := rfl
set_option maxRecDepth 100000 in
theorem i133_35 : INS 133 35 = some (2, 2, 0, 0, .int 6, []) := rfl
set_option maxRecDepth 100000 in
theorem i133_37 : INS 133 37 = some (10, 3, 45, 1, .null, []) := rfl
set_option maxRecDepth 100000 in
theorem i133_40 : INS 133 40 = some (0, 2, 4, 0, .null, []) := rfl
set_option maxRecDepth 100000 in
theorem i133_42 : INS 133 42 = some (12, 3, 46, 0, .null, []) := rfl
set_option maxRecDepth 100000 in
theorem i133_45 : INS 133 45 = some (2, 1, 0, 0, .int 0, []) := rfl
set_option maxRecDepth 100000 in
theorem i133_46 : INS 133 46 = some (19, 1, 20, 0, .null, []) := rfl
set_option maxRecDepth 100000 in
theorem i133_47 : INS 133 47 = some (0, 1, 0, 2, .null, []) := rfl
set_option maxRecDepth 100000 in
theorem i133_48 : INS 133 48 = some (16, 3, 11, 11, .null, []) := rfl
set_option maxRecDepth 100000 in
theorem i133_51 : INS 133 51 = some (0, 1, 1, 0, .null, []) := rfl
set_option maxRecDepth 100000 in
theorem i133_52 : INS 133 52 = some (0, 1, 2, 0, .null, []) := rfl
set_option maxRecDepth 100000 in
theorem i133_53 : INS 133 53 = some (2, 1, 0, 0, .int 5, []) := rfl
set_option maxRecDepth 100000 in
theorem i133_54 : INS 133 54 = some (10, 3, 62, 1, .null, []) := rfl
set_option maxRecDepth 100000 in
theorem i133_57 : INS 133 57 = some (0, 2, 5, 0, .null, []) := rfl
set_option maxRecDepth 100000 in
theorem i133_59 : INS 133 59 = some (12, 3, 63, 0, .null, []) := rfl
set_option maxRecDepth 100000 in
theorem i133_62 : INS 133 62 = some (2, 1, 0, 0, .int 0, []) := rfl
set_option maxRecDepth 100000 in
theorem i133_63 : INS 133 63 = some (19, 1, 20, 0, .null, []) := rfl
set_option maxRecDepth 100000 in
theorem i133_64 : INS 133 64 = some (0, 1, 0, 2, .null, []) := rfl
set_option maxRecDepth 100000 in
theorem i133_65 : INS 133 65 = some (16, 3, 11, 12, .null, []) := rfl
set_option maxRecDepth 100000 in
theorem i133_68 : INS 133 68 = some (0, 1, 1, 0, .null, []) := rfl
set_option maxRecDepth 100000 in
theorem i133_69 : INS 133 69 = some (2, 1, 0, 0, .int 0, []) := rfl
set_option maxRecDepth 100000 in
theorem i133_70 : INS 133 70 = some (19, 1, 20, 0, .null, []) := rfl
set_option maxRecDepth 100000 in
theorem i133_71 : INS 133 71 = some (0, 1, 0, 2, .null, []) := rfl
set_option maxRecDepth 100000 in
theorem i133_72 : INS 133 72 = some (16, 3, 11, 13, .null, []) := rfl
set_option maxRecDepth 100000 in
theorem i133_75 : INS 133 75 = some (0, 1, 1, 0, .null, []) := rfl
set_option maxRecDepth 100000 in
theorem i133_76 : INS 133 76 = some (2, 1, 0, 0, .int 0, []) := rfl
set_option maxRecDepth 100000 in
theorem i133_77 : INS 133 77 = some (19, 1, 20, 0, .null, []) := rfl
set_option maxRecDepth 100000 in
theorem i133_78 : INS 133 78 = some (0, 1, 0, 2, .null, []) := rfl
set_option maxRecDepth 100000 in
theorem i133_79 : INS 133 79 = some (16, 3, 11, 16, .null, []) := rfl
set_option maxRecDepth 100000 in
theorem i133_82 : INS 133 82 = some (0, 1, 1, 0, .null, []) := rfl
set_option maxRecDepth 100000 in
theorem i133_83 : INS 133 83 = some (2, 1, 0, 0, .int 0, []) := rfl
set_option maxRecDepth 100000 in
theorem i133_84 : INS 133 84 = some (19, 1, 20, 0, .null, []) := rfl
set_option maxRecDepth 100000 in
theorem i133_85 : INS 133 85 = some (0, 1, 0, 2, .null, []) := rfl
set_option maxRecDepth 100000 in
theorem i133_86 : INS 133 86 = some (16, 3, 11, 17, .null, []) := rfl
set_option maxRecDepth 100000 in
theorem i133_89 : INS 133 89 = some (0, 1, 1, 0, .null, []) := rfl
set_option maxRecDepth 100000 in
theorem i133_90 : INS 133 90 = some (2, 1, 0, 0, .int 0, []) := rfl
set_option maxRecDepth 100000 in
theorem i133_91 : INS 133 91 = some (19, 1, 20, 0, .null, []) := rfl
set_option maxRecDepth 100000 in
theorem i133_92 : INS 133 92 = some (0, 1, 0, 2, .null, []) := rfl
set_option maxRecDepth 100000 in
theorem i133_93 : INS 133 93 = some (16, 3, 11, 18, .null, []) := rfl
set_option maxRecDepth 100000 in
theorem i133_96 : INS 133 96 = some (0, 1, 1, 0, .null, []) := rfl
set_option maxRecDepth 100000 in
theorem i133_97 : INS 133 97 = some (2, 1, 0, 0, .int 0, []) := rfl
set_option maxRecDepth 100000 in
theorem i133_98 : INS 133 98 = some (19, 1, 20, 0, .null, []) := rfl
set_option maxRecDepth 100000 in
theorem i133_99 : INS 133 99 = some (0, 1, 0, 2, .null, []) := rfl
set_option maxRecDepth 100000 in
theorem i133_100 : INS 133 100 = some (16, 3, 11, 19, .null, []) := rfl
set_option maxRecDepth 100000 in
theorem i133_103 : INS 133 103 = some (0, 1, 1, 0, .null, []) := rfl
set_option maxRecDepth 100000 in
theorem i133_104 : INS 133 104 = some (2, 1, 0, 0, .int 0, []) := rfl
set_option maxRecDepth 100000 in
theorem i133_105 : INS 133 105 = some (19, 1, 20, 0, .null, []) := rfl
set_option maxRecDepth 100000 in
theorem i133_106 : INS 133 106 = some (0, 1, 0, 2, .null, []) := rfl
set_option maxRecDepth 100000 in
theorem i133_107 : INS 133 107 = some (16, 3, 11, 20, .null, []) := rfl
set_option maxRecDepth 100000 in
theorem i133_110 : INS 133 110 = some (0, 1, 1, 0, .null, []) := rfl
set_option maxRecDepth 100000 in
theorem i133_111 : INS 133 111 = some (2, 1, 0, 0, .int 0, []) := rfl
set_option maxRecDepth 100000 in
theorem i133_112 : INS 133 112 = some (19, 1, 22, 0, .null, []) := rfl
set_option maxRecDepth 100000 in
theorem i133_113 : INS 133 113 = some (0, 1, 0, 2, .null, []) := rfl
set_option maxRecDepth 100000 in
theorem i133_114 : INS 133 114 = some (16, 3, 11, 21, .null, []) := rfl
set_option maxRecDepth 100000 in
theorem i133_117 : INS 133 117 = some (2, 1, 0, 0, .int 2, []) := rfl
set_option maxRecDepth 100000 in
theorem i133_118 : INS 133 118 = some (0, 1, 1, 0, .null, []) := rfl
set_option maxRecDepth 100000 in
theorem i133_119 : INS 133 119 = some (3, 1, 2, 0, .null, []) := rfl
set_option maxRecDepth 100000 in
theorem i133_120 : INS 133 120 = some (2, 1, 0, 0, .int 0, []) := rfl
set_option maxRecDepth 100000 in
theorem i133_121 : INS 133 121 = some (19, 1, 20, 0, .null, []) := rfl
set_option maxRecDepth 100000 in
theorem i133_122 : INS 133 122 = some (0, 1, 0, 2, .null, []) := rfl
set_option maxRecDepth 100000 in
theorem i133_123 : INS 133 123 = some (16, 3, 11, 21, .null, []) := rfl
set_option maxRecDepth 100000 in
theorem i133_126 : INS 133 126 = some (2, 1, 0, 0, .int 2, []) := rfl
set_option maxRecDepth 100000 in
theorem i133_127 : INS 133 127 = some (0, 1, 1, 0, .null, []) := rfl
set_option maxRecDepth 100000 in
theorem i133_128 : INS 133 128 = some (3, 1, 2, 0, .null, []) := rfl
set_option maxRecDepth 100000 in
theorem i133_129 : INS 133 129 = some (2, 1, 0, 0, .int 1, []) := rfl
set_option maxRecDepth 100000 in
theorem i133_130 : INS 133 130 = some (3, 1, 0, 0, .null, []) := rfl
set_option maxRecDepth 100000 in
theorem i133_131 : INS 133 131 = some (2, 1, 0, 0, .int 0, []) := rfl
set_option maxRecDepth 100000 in
theorem i133_132 : INS 133 132 = some (19, 1, 20, 0, .null, []) := rfl
set_option maxRecDepth 100000 in
theorem i133_133 : INS 133 133 = some (0, 1, 0, 2, .null, []) := rfl
set_option maxRecDepth 100000 in
theorem i133_134 : INS 133 134 = some (16, 3, 11, 22, .null, []) := rfl
set_option maxRecDepth 100000 in
theorem i133_137 : INS 133 137 = some (0, 1, 1, 0, .null, []) := rfl
set_option maxRecDepth 100000 in
theorem i133_138 : INS 133 138 = some (2, 1, 0, 0, .int 3, []) := rfl
set_option maxRecDepth 100000 in
theorem i133_139 : INS 133 139 = some (19, 1, 20, 0, .null, []) := rfl
set_option maxRecDepth 100000 in
theorem i133_140 : INS 133 140 = some (0, 1, 0, 2, .null, []) := rfl
set_option maxRecDepth 100000 in
theorem i133_141 : INS 133 141 = some (16, 3, 11, 23, .null, []) := rfl
set_option maxRecDepth 100000 in
theorem i133_144 : INS 133 144 = some (0, 1, 1, 0, .null, []) := rfl
set_option maxRecDepth 100000 in
theorem i133_145 : INS 133 145 = some (2, 1, 0, 0, .int 3, []) := rfl
set_option maxRecDepth 100000 in
theorem i133_146 : INS 133 146 = some (19, 1, 20, 0, .null, []) := rfl
set_option maxRecDepth 100000 in
theorem i133_147 : INS 133 147 = some (27, 1, 3, 0, .null, []) := rfl
set_option maxRecDepth 100000 in
theorem i134_0 : INS 134 0 = some (0, 1, 0, 2, .null, []) := rfl
set_option maxRecDepth 100000 in
theorem i134_1 : INS 134 1 = some (0, 1, 1, 0, .null, []) := rfl
set_option maxRecDepth 100000 in
theorem i134_2 : INS 134 2 = some (0, 1, 2, 0, .null, []) := rfl
set_option maxRecDepth 100000 in
theorem i134_3 : INS 134 3 = some (0, 1, 3, 0, .null, []) := rfl
set_option maxRecDepth 100000 in
theorem i134_4 : INS 134 4 = some (0, 2, 4, 0, .null, []) := rfl
set_option maxRecDepth 100000 in
theorem i134_6 : INS 134 6 = some (0, 2, 5, 0, .null, []) := rfl
set_option maxRecDepth 100000 in
theorem i134_8 : INS 134 8 = some (24, 3, 132, 0, .null, []) := rfl
set_option maxRecDepth 100000 in
theorem i134_11 : INS 134 11 = some (1, 2, 6, 0, .null, []) := rfl
set_option maxRecDepth 100000 in
theorem i134_13 : INS 134 13 = some (0, 2, 6, 0, .null, []) := rfl
set_option maxRecDepth 100000 in
theorem i134_15 : INS 134 15 = some (9, 3, 25, 3, .null, []) := rfl
set_option maxRecDepth 100000 in
theorem i134_18 : INS 134 18 = some (0, 1, 0, 2, .null, []) := rfl
set_option maxRecDepth 100000 in
theorem i134_19 : INS 134 19 = some (0, 2, 6, 0, .null, []) := rfl
set_option maxRecDepth 100000 in
theorem i134_21 : INS 134 21 = some (24, 3, 124, 0, .null, []) := rfl
set_option maxRecDepth 100000 in
theorem i134_24 : INS 134 24 = some (27, 1, 0, 0, .null, []) := rfl
set_option maxRecDepth 100000 in
theorem i134_25 : INS 134 25 = some (0, 1, 0, 2, .null, []) := rfl
set_option maxRecDepth 100000 in
theorem i134_26 : INS 134 26 = some (0, 1, 1, 0, .null, []) := rfl
set_option maxRecDepth 100000 in
theorem i134_27 : INS 134 27 = some (0, 1, 2, 0, .null, []) := rfl
set_option maxRecDepth 100000 in
theorem i134_28 : INS 134 28 = some (0, 1, 3, 0, .null, []) := rfl
set_option maxRecDepth 100000 in
theorem i134_29 : INS 134 29 = some (0, 2, 4, 0, .null, []) := rfl
set_option maxRecDepth 100000 in
theorem i134_31 : INS 134 31 = some (0, 2, 5, 0, .null, []) := rfl
set_option maxRecDepth 100000 in
theorem i134_33 : INS 134 33 = some (24, 3, 133, 0, .null, []) := rfl
set_option maxRecDepth 100000 in
theorem i134_36 : INS 134 36 = some (2, 1, 0, 0, .int 1, []) := rfl
set_option maxRecDepth 100000 in
theorem i134_37 : INS 134 37 = some (27, 1, 0, 0, .null, []) := rfl
set_option maxRecDepth 100000 in
theorem i135_0 : INS 135 0 = some (0, 1, 1, 0, .null, []) := rfl
set_option maxRecDepth 100000 in
theorem i135_1 : INS 135 1 = some (24, 3, 125, 2, .null, []) := rfl
set_option maxRecDepth 100000 in
theorem i135_4 : INS 135 4 = some (9, 3, 13, 1, .null, []) := rfl
set_option maxRecDepth 100000 in
theorem i135_7 : INS 135 7 = some (0, 1, 0, 2, .null, []) := rfl
set_option maxRecDepth 100000 in
theorem i135_8 : INS 135 8 = some (2, 1, 0, 0, .int (-1), []) := rfl
set_option maxRecDepth 100000 in
theorem i135_9 : INS 135 9 = some (24, 3, 124, 0, .null, []) := rfl
set_option maxRecDepth 100000 in
theorem i135_12 : INS 135 12 = some (27, 1, 0, 0, .null, []) := rfl
set_option maxRecDepth 100000 in
theorem i135_13 : INS 135 13 = some (0, 1, 0, 2, .null, []) := rfl
set_option maxRecDepth 100000 in
theorem i135_14 : INS 135 14 = some (16, 3, 11, 8, .null, []) := rfl
set_option maxRecDepth 100000 in
theorem i135_17 : INS 135 17 = some (0, 1, 1, 0, .null, []) := rfl
set_option maxRecDepth 100000 in
theorem i135_18 : INS 135 18 = some (18, 1, 20, 0, .null, []) := rfl
set_option maxRecDepth 100000 in
theorem i135_19 : INS 135 19 = some (1, 1, 2, 0, .null, []) := rfl
set_option maxRecDepth 100000 in
theorem i135_20 : INS 135 20 = some (0, 1, 0, 2, .null, []) := rfl
set_option maxRecDepth 100000 in
theorem i135_21 : INS 135 21 = some (16, 3, 11, 8, .null, []) := rfl
set_option maxRecDepth 100000 in
theorem i135_24 : INS 135 24 = some (0, 1, 1, 0, .null, []) := rfl
set_option maxRecDepth 100000 in
theorem i135_25 : INS 135 25 = some (2, 1, 0, 0, .int 0, []) := rfl
set_option maxRecDepth 100000 in
theorem i135_26 : INS 135 26 = some (19, 1, 20, 0, .null, []) := rfl
set_option maxRecDepth 100000 in
theorem i135_27 : INS 135 27 = some (0, 1, 0, 2, .null, []) := rfl
set_option maxRecDepth 100000 in
theorem i135_28 : INS 135 28 = some (16, 3, 11, 16, .null, []) := rfl
set_option maxRecDepth 100000 in
theorem i135_31 : INS 135 31 = some (0, 1, 1, 0, .null, []) := rfl
set_option maxRecDepth 100000 in
theorem i135_32 : INS 135 32 = some (2, 1, 0, 0, .int 0, []) := rfl
set_option maxRecDepth 100000 in
theorem i135_33 : INS 135 33 = some (19, 1, 20, 0, .null, []) := rfl
set_option maxRecDepth 100000 in
theorem i135_34 : INS 135 34 = some (0, 1, 2, 0, .null, []) := rfl
set_option maxRecDepth 100000 in
theorem i135_35 : INS 135 35 = some (27, 1, 0, 0, .null, []) := rfl
set_option maxRecDepth 100000 in
theorem i137_0 : INS 137 0 = some (0, 1, 0, 2, .null, []) := rfl
set_option maxRecDepth 100000 in
theorem i137_1 : INS 137 1 = some (16, 3, 11, 24, .null, []) := rfl
set_option maxRecDepth 100000 in
theorem i137_4 : INS 137 4 = some (0, 1, 1, 0, .null, []) := rfl
set_option maxRecDepth 100000 in
theorem i137_5 : INS 137 5 = some (18, 1, 20, 0, .null, []) := rfl
set_option maxRecDepth 100000 in
theorem i137_6 : INS 137 6 = some (2, 2, 0, 0, .int 100, []) := rfl
set_option maxRecDepth 100000 in
theorem i137_8 : INS 137 8 = some (10, 3, 15, 2, .null, []) := rfl
set_option maxRecDepth 100000 in
theorem i137_11 : INS 137 11 = some (2, 1, 0, 0, .int 1, []) := rfl
set_option maxRecDepth 100000 in
theorem i137_12 : INS 137 12 = some (12, 3, 16, 0, .null, []) := rfl
set_option maxRecDepth 100000 in
theorem i137_15 : INS 137 15 = some (2, 1, 0, 0, .int 0, []) := rfl
set_option maxRecDepth 100000 in
theorem i137_16 : INS 137 16 = some (27, 1, 0, 0, .null, []) := rfl
set_option maxRecDepth 100000 in
theorem i138_0 : INS 138 0 = some (0, 1, 0, 0, .null, []) := rfl
set_option maxRecDepth 100000 in
theorem i138_1 : INS 138 1 = some (9, 3, 11, 1, .null, []) := rfl
set_option maxRecDepth 100000 in
theorem i138_4 : INS 138 4 = some (0, 1, 1, 1, .null, []) := rfl
set_option maxRecDepth 100000 in
theorem i138_5 : INS 138 5 = some (6, 1, 2, 0, .null, []) := rfl
set_option maxRecDepth 100000 in
theorem i138_6 : INS 138 6 = some (6, 1, 3, 0, .null, []) := rfl
set_option maxRecDepth 100000 in
theorem i138_7 : INS 138 7 = some (6, 1, 1, 0, .null, []) := rfl
set_option maxRecDepth 100000 in
theorem i138_8 : INS 138 8 = some (12, 3, 35, 0, .null, []) := rfl
set_option maxRecDepth 100000 in
theorem i138_11 : INS 138 11 = some (0, 1, 0, 0, .null, []) := rfl
set_option maxRecDepth 100000 in
theorem i138_12 : INS 138 12 = some (2, 1, 0, 0, .int 1, []) := rfl
set_option maxRecDepth 100000 in
theorem i138_13 : INS 138 13 = some (10, 3, 23, 1, .null, []) := rfl
set_option maxRecDepth 100000 in
theorem i138_16 : INS 138 16 = some (0, 1, 1, 1, .null, []) := rfl
set_option maxRecDepth 100000 in
theorem i138_17 : INS 138 17 = some (6, 1, 2, 0, .null, []) := rfl
set_option maxRecDepth 100000 in
theorem i138_18 : INS 138 18 = some (6, 1, 4, 0, .null, []) := rfl
set_option maxRecDepth 100000 in
theorem i138_19 : INS 138 19 = some (6, 1, 1, 0, .null, []) := rfl
set_option maxRecDepth 100000 in
theorem i138_20 : INS 138 20 = some (12, 3, 35, 0, .null, []) := rfl
set_option maxRecDepth 100000 in
theorem i138_23 : INS 138 23 = some (0, 1, 0, 0, .null, []) := rfl
set_option maxRecDepth 100000 in
theorem i138_24 : INS 138 24 = some (2, 1, 0, 0, .int 2, []) := rfl
set_option maxRecDepth 100000 in
theorem i138_25 : INS 138 25 = some (10, 3, 34, 1, .null, []) := rfl
set_option maxRecDepth 100000 in
theorem i138_28 : INS 138 28 = some (0, 1, 1, 1, .null, []) := rfl
set_option maxRecDepth 100000 in
theorem i138_29 : INS 138 29 = some (6, 1, 2, 0, .null, []) := rfl
set_option maxRecDepth 100000 in
theorem i138_30 : INS 138 30 = some (6, 1, 1, 0, .null, []) := rfl
set_option maxRecDepth 100000 in
theorem i138_31 : INS 138 31 = some (12, 3, 35, 0, .null, []) := rfl
set_option maxRecDepth 100000 in
theorem i138_34 : INS 138 34 = some (0, 1, 1, 1, .null, []) := rfl
set_option maxRecDepth 100000 in
theorem i138_35 : INS 138 35 = some (27, 1, 1, 0, .null, []) := rfl
set_option maxRecDepth 100000 in
theorem i140_0 : INS 140 0 = some (0, 1, 1, 0, .null, []) := rfl
set_option maxRecDepth 100000 in
theorem i140_1 : INS 140 1 = some (24, 3, 136, 2, .null, []) := rfl
set_option maxRecDepth 100000 in
theorem i140_4 : INS 140 4 = some (9, 3, 11, 1, .null, []) := rfl
set_option maxRecDepth 100000 in
theorem i140_7 : INS 140 7 = some (2, 1, 0, 0, .int (-1), []) := rfl
set_option maxRecDepth 100000 in
theorem i140_8 : INS 140 8 = some (12, 3, 39, 0, .null, []) := rfl
set_option maxRecDepth 100000 in
theorem i140_11 : INS 140 11 = some (0, 1, 0, 2, .null, []) := rfl
set_option maxRecDepth 100000 in
theorem i140_12 : INS 140 12 = some (0, 1, 1, 0, .null, []) := rfl
set_option maxRecDepth 100000 in
theorem i140_13 : INS 140 13 = some (24, 3, 137, 0, .null, []) := rfl
set_option maxRecDepth 100000 in
theorem i140_16 : INS 140 16 = some (9, 3, 23, 0, .null, []) := rfl
set_option maxRecDepth 100000 in
theorem i140_19 : INS 140 19 = some (2, 1, 0, 0, .int 0, []) := rfl
set_option maxRecDepth 100000 in
theorem i140_20 : INS 140 20 = some (12, 3, 39, 0, .null, []) := rfl
set_option maxRecDepth 100000 in
theorem i140_23 : INS 140 23 = some (0, 1, 0, 2, .null, []) := rfl
set_option maxRecDepth 100000 in
theorem i140_24 : INS 140 24 = some (16, 3, 11, 24, .null, []) := rfl
set_option maxRecDepth 100000 in
theorem i140_27 : INS 140 27 = some (0, 1, 1, 0, .null, []) := rfl
set_option maxRecDepth 100000 in
theorem i140_28 : INS 140 28 = some (18, 1, 20, 0, .null, []) := rfl
set_option maxRecDepth 100000 in
theorem i140_29 : INS 140 29 = some (9, 3, 37, 1, .null, []) := rfl
set_option maxRecDepth 100000 in
theorem i140_32 : INS 140 32 = some (2, 2, 0, 0, .int (-2), []) := rfl
set_option maxRecDepth 100000 in
theorem i140_34 : INS 140 34 = some (12, 3, 39, 0, .null, []) := rfl
set_option maxRecDepth 100000 in
theorem i140_37 : INS 140 37 = some (2, 2, 0, 0, .int (-3), []) := rfl
set_option maxRecDepth 100000 in
theorem i140_39 : INS 140 39 = some (27, 1, 0, 0, .null, []) := rfl
set_option maxRecDepth 100000 in
theorem i141_0 : INS 141 0 = some (0, 1, 0, 2, .null, []) := rfl
set_option maxRecDepth 100000 in
theorem i141_1 : INS 141 1 = some (0, 1, 1, 0, .null, []) := rfl
set_option maxRecDepth 100000 in
theorem i141_2 : INS 141 2 = some (24, 3, 140, 0, .null, []) := rfl
set_option maxRecDepth 100000 in
theorem i141_5 : INS 141 5 = some (1, 2, 5, 0, .null, []) := rfl
set_option maxRecDepth 100000 in
theorem i141_7 : INS 141 7 = some (0, 2, 5, 0, .null, []) := rfl
set_option maxRecDepth 100000 in
theorem i141_9 : INS 141 9 = some (9, 3, 19, 0, .null, []) := rfl
set_option maxRecDepth 100000 in
theorem i141_12 : INS 141 12 = some (0, 1, 0, 2, .null, []) := rfl
set_option maxRecDepth 100000 in
theorem i141_13 : INS 141 13 = some (0, 2, 5, 0, .null, []) := rfl
set_option maxRecDepth 100000 in
theorem i141_15 : INS 141 15 = some (24, 3, 124, 0, .null, []) := rfl
set_option maxRecDepth 100000 in
theorem i141_18 : INS 141 18 = some (27, 1, 0, 0, .null, []) := rfl
set_option maxRecDepth 100000 in
theorem i141_19 : INS 141 19 = some (0, 1, 2, 0, .null, []) := rfl
set_option maxRecDepth 100000 in
theorem i141_20 : INS 141 20 = some (2, 1, 0, 0, .int 0, []) := rfl
set_option maxRecDepth 100000 in
theorem i141_21 : INS 141 21 = some (0, 1, 0, 2, .null, []) := rfl
set_option maxRecDepth 100000 in
theorem i141_22 : INS 141 22 = some (16, 3, 11, 25, .null, []) := rfl
set_option maxRecDepth 100000 in
theorem i141_25 : INS 141 25 = some (0, 1, 1, 0, .null, []) := rfl
set_option maxRecDepth 100000 in
theorem i141_26 : INS 141 26 = some (18, 1, 20, 0, .null, []) := rfl
set_option maxRecDepth 100000 in
theorem i141_27 : INS 141 27 = some (2, 1, 0, 0, .int 1, []) := rfl
set_option maxRecDepth 100000 in
theorem i141_28 : INS 141 28 = some (3, 1, 1, 0, .null, []) := rfl
set_option maxRecDepth 100000 in
theorem i141_29 : INS 141 29 = some (24, 3, 123, 2, .null, []) := rfl
set_option maxRecDepth 100000 in
theorem i141_32 : INS 141 32 = some (9, 3, 42, 1, .null, []) := rfl
set_option maxRecDepth 100000 in
theorem i141_35 : INS 141 35 = some (0, 1, 0, 2, .null, []) := rfl
set_option maxRecDepth 100000 in
theorem i141_36 : INS 141 36 = some (2, 2, 0, 0, .int (-5), []) := rfl
set_option maxRecDepth 100000 in
theorem i141_38 : INS 141 38 = some (24, 3, 124, 0, .null, []) := rfl
set_option maxRecDepth 100000 in
theorem i141_41 : INS 141 41 = some (27, 1, 0, 0, .null, []) := rfl
set_option maxRecDepth 100000 in
theorem i141_42 : INS 141 42 = some (0, 1, 0, 2, .null, []) := rfl
set_option maxRecDepth 100000 in
theorem i141_43 : INS 141 43 = some (16, 3, 11, 26, .null, []) := rfl
set_option maxRecDepth 100000 in
theorem i141_46 : INS 141 46 = some (2, 2, 0, 0, .int 100, []) := rfl
set_option maxRecDepth 100000 in
theorem i141_48 : INS 141 48 = some (0, 1, 1, 0, .null, []) := rfl
set_option maxRecDepth 100000 in
theorem i141_49 : INS 141 49 = some (3, 1, 2, 0, .null, []) := rfl
set_option maxRecDepth 100000 in
theorem i141_50 : INS 141 50 = some (0, 1, 2, 0, .null, []) := rfl
set_option maxRecDepth 100000 in
theorem i141_51 : INS 141 51 = some (3, 1, 0, 0, .null, []) := rfl
set_option maxRecDepth 100000 in
theorem i141_52 : INS 141 52 = some (0, 1, 0, 2, .null, []) := rfl
set_option maxRecDepth 100000 in
theorem i141_53 : INS 141 53 = some (16, 3, 11, 24, .null, []) := rfl
set_option maxRecDepth 100000 in
theorem i141_56 : INS 141 56 = some (0, 1, 1, 0, .null, []) := rfl
set_option maxRecDepth 100000 in
theorem i141_57 : INS 141 57 = some (18, 1, 20, 0, .null, []) := rfl
set_option maxRecDepth 100000 in
theorem i141_58 : INS 141 58 = some (2, 2, 0, 0, .int 100, []) := rfl
set_option maxRecDepth 100000 in
theorem i141_60 : INS 141 60 = some (3, 1, 1, 0, .null, []) := rfl
set_option maxRecDepth 100000 in
theorem i141_61 : INS 141 61 = some (0, 1, 3, 1, .null, []) := rfl
set_option maxRecDepth 100000 in
theorem i141_62 : INS 141 62 = some (24, 3, 138, 2, .null, []) := rfl
set_option maxRecDepth 100000 in
theorem i141_65 : INS 141 65 = some (19, 1, 21, 0, .null, []) := rfl
set_option maxRecDepth 100000 in
theorem i141_66 : INS 141 66 = some (2, 1, 0, 0, .int 1, []) := rfl
set_option maxRecDepth 100000 in
theorem i141_67 : INS 141 67 = some (27, 1, 0, 0, .null, []) := rfl
set_option maxRecDepth 100000 in
theorem i143_0 : INS 143 0 = some (0, 1, 1, 0, .null, []) := rfl
set_option maxRecDepth 100000 in
theorem i143_1 : INS 143 1 = some (24, 3, 136, 2, .null, []) := rfl
set_option maxRecDepth 100000 in
theorem i143_4 : INS 143 4 = some (9, 3, 45, 0, .null, []) := rfl
set_option maxRecDepth 100000 in
theorem i143_7 : INS 143 7 = some (0, 1, 0, 2, .null, []) := rfl
set_option maxRecDepth 100000 in
theorem i143_8 : INS 143 8 = some (0, 1, 1, 0, .null, []) := rfl
set_option maxRecDepth 100000 in
theorem i143_9 : INS 143 9 = some (24, 3, 137, 0, .null, []) := rfl
set_option maxRecDepth 100000 in
theorem i143_12 : INS 143 12 = some (9, 3, 45, 0, .null, []) := rfl
set_option maxRecDepth 100000 in
theorem i143_15 : INS 143 15 = some (0, 1, 2, 0, .null, []) := rfl
set_option maxRecDepth 100000 in
theorem i143_16 : INS 143 16 = some (2, 1, 0, 0, .int 0, []) := rfl
set_option maxRecDepth 100000 in
theorem i143_17 : INS 143 17 = some (0, 1, 0, 2, .null, []) := rfl
set_option maxRecDepth 100000 in
theorem i143_18 : INS 143 18 = some (16, 3, 11, 25, .null, []) := rfl
set_option maxRecDepth 100000 in
theorem i143_21 : INS 143 21 = some (0, 1, 1, 0, .null, []) := rfl
set_option maxRecDepth 100000 in
theorem i143_22 : INS 143 22 = some (18, 1, 20, 0, .null, []) := rfl
set_option maxRecDepth 100000 in
theorem i143_23 : INS 143 23 = some (2, 1, 0, 0, .int 1, []) := rfl
set_option maxRecDepth 100000 in
theorem i143_24 : INS 143 24 = some (3, 1, 1, 0, .null, []) := rfl
set_option maxRecDepth 100000 in
theorem i143_25 : INS 143 25 = some (24, 3, 123, 2, .null, []) := rfl
set_option maxRecDepth 100000 in
theorem i143_28 : INS 143 28 = some (9, 3, 45, 0, .null, []) := rfl
set_option maxRecDepth 100000 in
theorem i143_31 : INS 143 31 = some (0, 1, 0, 2, .null, []) := rfl
set_option maxRecDepth 100000 in
theorem i143_32 : INS 143 32 = some (16, 3, 11, 26, .null, []) := rfl
set_option maxRecDepth 100000 in
theorem i143_35 : INS 143 35 = some (2, 2, 0, 0, .int 100, []) := rfl
set_option maxRecDepth 100000 in
theorem i143_37 : INS 143 37 = some (0, 1, 1, 0, .null, []) := rfl
set_option maxRecDepth 100000 in
theorem i143_38 : INS 143 38 = some (3, 1, 2, 0, .null, []) := rfl
set_option maxRecDepth 100000 in
theorem i143_39 : INS 143 39 = some (0, 1, 2, 0, .null, []) := rfl
set_option maxRecDepth 100000 in
theorem i143_40 : INS 143 40 = some (3, 1, 0, 0, .null, []) := rfl
set_option maxRecDepth 100000 in
theorem i143_41 : INS 143 41 = some (18, 1, 21, 0, .null, []) := rfl
set_option maxRecDepth 100000 in
theorem i143_42 : INS 143 42 = some (12, 3, 46, 0, .null, []) := rfl
set_option maxRecDepth 100000 in
theorem i143_45 : INS 143 45 = some (2, 1, 0, 0, .long 0, []) := rfl
set_option maxRecDepth 100000 in
theorem i143_46 : INS 143 46 = some (27, 1, 1, 0, .null, []) := rfl
set_option maxRecDepth 100000 in
theorem i144_0 : INS 144 0 = some (0, 1, 1, 0, .null, []) := rfl
set_option maxRecDepth 100000 in
theorem i144_1 : INS 144 1 = some (24, 3, 136, 2, .null, []) := rfl
set_option maxRecDepth 100000 in
theorem i144_4 : INS 144 4 = some (9, 3, 13, 1, .null, []) := rfl
set_option maxRecDepth 100000 in
theorem i144_7 : INS 144 7 = some (0, 1, 0, 2, .null, []) := rfl
set_option maxRecDepth 100000 in
theorem i144_8 : INS 144 8 = some (2, 1, 0, 0, .int (-1), []) := rfl
set_option maxRecDepth 100000 in
theorem i144_9 : INS 144 9 = some (24, 3, 124, 0, .null, []) := rfl
set_option maxRecDepth 100000 in
theorem i144_12 : INS 144 12 = some (27, 1, 0, 0, .null, []) := rfl
set_option maxRecDepth 100000 in
theorem i144_13 : INS 144 13 = some (0, 1, 0, 2, .null, []) := rfl
set_option maxRecDepth 100000 in
theorem i144_14 : INS 144 14 = some (16, 3, 11, 24, .null, []) := rfl
set_option maxRecDepth 100000 in
theorem i144_17 : INS 144 17 = some (0, 1, 1, 0, .null, []) := rfl
set_option maxRecDepth 100000 in
theorem i144_18 : INS 144 18 = some (18, 1, 20, 0, .null, []) := rfl
set_option maxRecDepth 100000 in
theorem i144_19 : INS 144 19 = some (1, 1, 2, 0, .null, []) := rfl
set_option maxRecDepth 100000 in
theorem i144_20 : INS 144 20 = some (0, 1, 0, 2, .null, []) := rfl
set_option maxRecDepth 100000 in
theorem i144_21 : INS 144 21 = some (16, 3, 11, 24, .null, []) := rfl
set_option maxRecDepth 100000 in
theorem i144_24 : INS 144 24 = some (0, 1, 1, 0, .null, []) := rfl
set_option maxRecDepth 100000 in
theorem i144_25 : INS 144 25 = some (2, 1, 0, 0, .int (-1), []) := rfl
set_option maxRecDepth 100000 in
theorem i144_26 : INS 144 26 = some (19, 1, 20, 0, .null, []) := rfl
set_option maxRecDepth 100000 in
theorem i144_27 : INS 144 27 = some (0, 1, 2, 0, .null, []) := rfl
set_option maxRecDepth 100000 in
theorem i144_28 : INS 144 28 = some (2, 1, 0, 0, .int (-1), []) := rfl
set_option maxRecDepth 100000 in
theorem i144_29 : INS 144 29 = some (10, 3, 36, 1, .null, []) := rfl
set_option maxRecDepth 100000 in
theorem i144_32 : INS 144 32 = some (2, 1, 0, 0, .int 0, []) := rfl
set_option maxRecDepth 100000 in
theorem i144_33 : INS 144 33 = some (12, 3, 37, 0, .null, []) := rfl
set_option maxRecDepth 100000 in
theorem i144_36 : INS 144 36 = some (2, 1, 0, 0, .int 1, []) := rfl
set_option maxRecDepth 100000 in
theorem i144_37 : INS 144 37 = some (27, 1, 0, 0, .null, []) := rfl
set_option maxRecDepth 100000 in
theorem i145_0 : INS 145 0 = some (0, 1, 1, 0, .null, []) := rfl
set_option maxRecDepth 100000 in
theorem i145_1 : INS 145 1 = some (24, 3, 136, 2, .null, []) := rfl
set_option maxRecDepth 100000 in
theorem i145_4 : INS 145 4 = some (9, 3, 16, 0, .null, []) := rfl
set_option maxRecDepth 100000 in
theorem i145_7 : INS 145 7 = some (0, 1, 0, 2, .null, []) := rfl
set_option maxRecDepth 100000 in
theorem i145_8 : INS 145 8 = some (16, 3, 11, 24, .null, []) := rfl
set_option maxRecDepth 100000 in
theorem i145_11 : INS 145 11 = some (0, 1, 1, 0, .null, []) := rfl
set_option maxRecDepth 100000 in
theorem i145_12 : INS 145 12 = some (18, 1, 20, 0, .null, []) := rfl
set_option maxRecDepth 100000 in
theorem i145_13 : INS 145 13 = some (12, 3, 17, 0, .null, []) := rfl
set_option maxRecDepth 100000 in
theorem i145_16 : INS 145 16 = some (2, 1, 0, 0, .int (-1), []) := rfl
set_option maxRecDepth 100000 in
theorem i145_17 : INS 145 17 = some (27, 1, 0, 0, .null, []) := rfl
set_option maxRecDepth 100000 in
theorem i146_0 : INS 146 0 = some (0, 1, 0, 2, .null, []) := rfl
set_option maxRecDepth 100000 in
theorem i146_1 : INS 146 1 = some (16, 3, 11, 26, .null, []) := rfl
set_option maxRecDepth 100000 in
theorem i146_4 : INS 146 4 = some (2, 2, 0, 0, .int 100, []) := rfl
set_option maxRecDepth 100000 in
theorem i146_6 : INS 146 6 = some (0, 1, 1, 0, .null, []) := rfl
set_option maxRecDepth 100000 in
theorem i146_7 : INS 146 7 = some (3, 1, 2, 0, .null, []) := rfl
set_option maxRecDepth 100000 in
theorem i146_8 : INS 146 8 = some (0, 1, 2, 0, .null, []) := rfl
set_option maxRecDepth 100000 in
theorem i146_9 : INS 146 9 = some (3, 1, 0, 0, .null, []) := rfl
set_option maxRecDepth 100000 in
theorem i146_10 : INS 146 10 = some (18, 1, 21, 0, .null, []) := rfl
set_option maxRecDepth 100000 in
theorem i146_11 : INS 146 11 = some (6, 1, 2, 0, .null, []) := rfl
set_option maxRecDepth 100000 in
theorem i146_12 : INS 146 12 = some (27, 1, 0, 0, .null, []) := rfl
set_option maxRecDepth 100000 in
theorem i150_0 : INS 150 0 = some (0, 1, 0, 0, .null, []) := rfl
set_option maxRecDepth 100000 in
theorem i150_1 : INS 150 1 = some (2, 1, 0, 0, .int 4, []) := rfl
set_option maxRecDepth 100000 in
theorem i150_2 : INS 150 2 = some (10, 3, 20, 1, .null, []) := rfl
set_option maxRecDepth 100000 in
theorem i150_5 : INS 150 5 = some (0, 1, 1, 0, .null, []) := rfl
set_option maxRecDepth 100000 in
theorem i150_6 : INS 150 6 = some (0, 1, 2, 0, .null, []) := rfl
set_option maxRecDepth 100000 in
theorem i150_7 : INS 150 7 = some (3, 1, 8, 0, .null, []) := rfl
set_option maxRecDepth 100000 in
theorem i150_8 : INS 150 8 = some (0, 1, 1, 0, .null, []) := rfl
set_option maxRecDepth 100000 in
theorem i150_9 : INS 150 9 = some (2, 1, 0, 0, .int 4, []) := rfl
set_option maxRecDepth 100000 in
theorem i150_10 : INS 150 10 = some (0, 1, 2, 0, .null, []) := rfl
set_option maxRecDepth 100000 in
theorem i150_11 : INS 150 11 = some (3, 1, 1, 0, .null, []) := rfl
set_option maxRecDepth 100000 in
theorem i150_12 : INS 150 12 = some (3, 1, 9, 0, .null, []) := rfl
set_option maxRecDepth 100000 in
theorem i150_13 : INS 150 13 = some (3, 1, 6, 0, .null, []) := rfl
set_option maxRecDepth 100000 in
theorem i150_14 : INS 150 14 = some (2, 2, 0, 0, .int 15, []) := rfl
set_option maxRecDepth 100000 in
theorem i150_16 : INS 150 16 = some (3, 1, 5, 0, .null, []) := rfl
set_option maxRecDepth 100000 in
theorem i150_17 : INS 150 17 = some (12, 3, 25, 0, .null, []) := rfl
set_option maxRecDepth 100000 in
theorem i150_20 : INS 150 20 = some (0, 1, 1, 0, .null, []) := rfl
set_option maxRecDepth 100000 in
theorem i150_21 : INS 150 21 = some (0, 1, 2, 0, .null, []) := rfl
set_option maxRecDepth 100000 in
theorem i150_22 : INS 150 22 = some (3, 1, 0, 0, .null, []) := rfl
set_option maxRecDepth 100000 in
theorem i150_23 : INS 150 23 = some (2, 1, 0, 0, .int 4, []) := rfl
set_option maxRecDepth 100000 in
theorem i150_24 : INS 150 24 = some (3, 1, 4, 0, .null, []) := rfl
set_option maxRecDepth 100000 in
theorem i150_25 : INS 150 25 = some (27, 1, 0, 0, .null, []) := rfl
set_option maxRecDepth 100000 in
theorem i152_0 : INS 152 0 = some (0, 1, 0, 2, .null, []) := rfl
set_option maxRecDepth 100000 in
theorem i152_1 : INS 152 1 = some (0, 1, 1, 0, .null, []) := rfl
set_option maxRecDepth 100000 in
theorem i152_2 : INS 152 2 = some (24, 3, 137, 0, .null, []) := rfl
set_option maxRecDepth 100000 in
theorem i152_5 : INS 152 5 = some (9, 3, 13, 0, .null, []) := rfl
set_option maxRecDepth 100000 in
theorem i152_8 : INS 152 8 = some (2, 2, 0, 0, .int (-2), []) := rfl
set_option maxRecDepth 100000 in
theorem i152_10 : INS 152 10 = some (12, 3, 29, 0, .null, []) := rfl
set_option maxRecDepth 100000 in
theorem i152_13 : INS 152 13 = some (0, 1, 0, 2, .null, []) := rfl
set_option maxRecDepth 100000 in
theorem i152_14 : INS 152 14 = some (16, 3, 11, 24, .null, []) := rfl
set_option maxRecDepth 100000 in
theorem i152_17 : INS 152 17 = some (0, 1, 1, 0, .null, []) := rfl
set_option maxRecDepth 100000 in
theorem i152_18 : INS 152 18 = some (18, 1, 20, 0, .null, []) := rfl
set_option maxRecDepth 100000 in
theorem i152_19 : INS 152 19 = some (2, 1, 0, 0, .int (-1), []) := rfl
set_option maxRecDepth 100000 in
theorem i152_20 : INS 152 20 = some (10, 3, 28, 1, .null, []) := rfl
set_option maxRecDepth 100000 in
theorem i152_23 : INS 152 23 = some (2, 2, 0, 0, .int (-3), []) := rfl
set_option maxRecDepth 100000 in
theorem i152_25 : INS 152 25 = some (12, 3, 29, 0, .null, []) := rfl
set_option maxRecDepth 100000 in
theorem i152_28 : INS 152 28 = some (2, 1, 0, 0, .int 0, []) := rfl
set_option maxRecDepth 100000 in
theorem i152_29 : INS 152 29 = some (27, 1, 0, 0, .null, []) := rfl
set_option maxRecDepth 100000 in
theorem i154_0 : INS 154 0 = some (0, 1, 1, 0, .null, []) := rfl
set_option maxRecDepth 100000 in
theorem i154_1 : INS 154 1 = some (24, 3, 136, 2, .null, []) := rfl
set_option maxRecDepth 100000 in
theorem i154_4 : INS 154 4 = some (9, 3, 13, 1, .null, []) := rfl
set_option maxRecDepth 100000 in
theorem i154_13 : INS 154 13 = some (0, 1, 0, 2, .null, []) := rfl
set_option maxRecDepth 100000 in
theorem i154_14 : INS 154 14 = some (0, 1, 1, 0, .null, []) := rfl
set_option maxRecDepth 100000 in
theorem i154_15 : INS 154 15 = some (24, 3, 152, 0, .null, []) := rfl
set_option maxRecDepth 100000 in
theorem i154_18 : INS 154 18 = some (1, 1, 2, 0, .null, []) := rfl
set_option maxRecDepth 100000 in
theorem i154_19 : INS 154 19 = some (0, 1, 2, 0, .null, []) := rfl
set_option maxRecDepth 100000 in
theorem i154_20 : INS 154 20 = some (9, 3, 31, 0, .null, []) := rfl
set_option maxRecDepth 100000 in
theorem i154_31 : INS 154 31 = some (0, 1, 0, 2, .null, []) := rfl
set_option maxRecDepth 100000 in
theorem i154_32 : INS 154 32 = some (0, 1, 1, 0, .null, []) := rfl
set_option maxRecDepth 100000 in
theorem i154_33 : INS 154 33 = some (24, 3, 149, 0, .null, []) := rfl
set_option maxRecDepth 100000 in
theorem i155_0 : INS 155 0 = some (2, 3, 0, 0, .int 144, []) := rfl
set_option maxRecDepth 100000 in
theorem i155_3 : INS 155 3 = some (0, 1, 1, 0, .null, []) := rfl
set_option maxRecDepth 100000 in
theorem i155_4 : INS 155 4 = some (3, 1, 2, 0, .null, []) := rfl
set_option maxRecDepth 100000 in
theorem i155_5 : INS 155 5 = some (0, 1, 2, 0, .null, []) := rfl
set_option maxRecDepth 100000 in
theorem i155_6 : INS 155 6 = some (3, 1, 0, 0, .null, []) := rfl
set_option maxRecDepth 100000 in
theorem i155_7 : INS 155 7 = some (1, 1, 3, 0, .null, []) := rfl
set_option maxRecDepth 100000 in
theorem i155_8 : INS 155 8 = some (0, 1, 0, 2, .null, []) := rfl
set_option maxRecDepth 100000 in
theorem i155_9 : INS 155 9 = some (16, 3, 11, 10, .null, []) := rfl
set_option maxRecDepth 100000 in
theorem i155_12 : INS 155 12 = some (0, 1, 2, 0, .null, []) := rfl
set_option maxRecDepth 100000 in
theorem i155_13 : INS 155 13 = some (18, 1, 20, 0, .null, []) := rfl
set_option maxRecDepth 100000 in
theorem i155_14 : INS 155 14 = some (1, 2, 4, 0, .null, []) := rfl
set_option maxRecDepth 100000 in
theorem i155_16 : INS 155 16 = some (0, 1, 0, 2, .null, []) := rfl
set_option maxRecDepth 100000 in
theorem i155_17 : INS 155 17 = some (16, 3, 11, 20, .null, []) := rfl
set_option maxRecDepth 100000 in
theorem i155_20 : INS 155 20 = some (0, 1, 3, 0, .null, []) := rfl
set_option maxRecDepth 100000 in
theorem i155_21 : INS 155 21 = some (18, 1, 22, 0, .null, []) := rfl
set_option maxRecDepth 100000 in
theorem i155_22 : INS 155 22 = some (9, 3, 91, 0, .null, []) := rfl
set_option maxRecDepth 100000 in
theorem i155_25 : INS 155 25 = some (0, 1, 0, 2, .null, []) := rfl
set_option maxRecDepth 100000 in
theorem i155_26 : INS 155 26 = some (16, 3, 11, 19, .null, []) := rfl
set_option maxRecDepth 100000 in
theorem i155_29 : INS 155 29 = some (0, 1, 3, 0, .null, []) := rfl
set_option maxRecDepth 100000 in
theorem i155_30 : INS 155 30 = some (8, 1, 2, 0, .null, []) := rfl
set_option maxRecDepth 100000 in
theorem i155_31 : INS 155 31 = some (18, 1, 20, 0, .null, []) := rfl
set_option maxRecDepth 100000 in
theorem i155_32 : INS 155 32 = some (2, 1, 0, 0, .int 1, []) := rfl
set_option maxRecDepth 100000 in
theorem i155_33 : INS 155 33 = some (3, 1, 0, 0, .null, []) := rfl
set_option maxRecDepth 100000 in
theorem i155_34 : INS 155 34 = some (19, 1, 20, 0, .null, []) := rfl
set_option maxRecDepth 100000 in
theorem i155_35 : INS 155 35 = some (0, 1, 0, 2, .null, []) := rfl
set_option maxRecDepth 100000 in
theorem i155_36 : INS 155 36 = some (16, 3, 11, 19, .null, []) := rfl
set_option maxRecDepth 100000 in
theorem i155_39 : INS 155 39 = some (0, 1, 3, 0, .null, []) := rfl
set_option maxRecDepth 100000 in
theorem i155_40 : INS 155 40 = some (18, 1, 20, 0, .null, []) := rfl
set_option maxRecDepth 100000 in
theorem i155_41 : INS 155 41 = some (0, 1, 0, 2, .null, []) := rfl
set_option maxRecDepth 100000 in
theorem i155_42 : INS 155 42 = some (16, 3, 11, 4, .null, []) := rfl
set_option maxRecDepth 100000 in
theorem i155_45 : INS 155 45 = some (0, 2, 4, 0, .null, []) := rfl
set_option maxRecDepth 100000 in
theorem i155_47 : INS 155 47 = some (18, 1, 20, 0, .null, []) := rfl
set_option maxRecDepth 100000 in
theorem i155_48 : INS 155 48 = some (10, 3, 91, 1, .null, []) := rfl
set_option maxRecDepth 100000 in
theorem i155_51 : INS 155 51 = some (0, 1, 0, 2, .null, []) := rfl
set_option maxRecDepth 100000 in
theorem i155_52 : INS 155 52 = some (16, 3, 11, 18, .null, []) := rfl
set_option maxRecDepth 100000 in
theorem i155_55 : INS 155 55 = some (0, 1, 3, 0, .null, []) := rfl
set_option maxRecDepth 100000 in
theorem i155_56 : INS 155 56 = some (8, 1, 2, 0, .null, []) := rfl
set_option maxRecDepth 100000 in
theorem i155_57 : INS 155 57 = some (18, 1, 20, 0, .null, []) := rfl
set_option maxRecDepth 100000 in
theorem i155_58 : INS 155 58 = some (0, 1, 0, 2, .null, []) := rfl
set_option maxRecDepth 100000 in
theorem i155_59 : INS 155 59 = some (16, 3, 11, 2, .null, []) := rfl
set_option maxRecDepth 100000 in
theorem i155_62 : INS 155 62 = some (0, 2, 4, 0, .null, []) := rfl
set_option maxRecDepth 100000 in
theorem i155_64 : INS 155 64 = some (18, 1, 20, 0, .null, []) := rfl
set_option maxRecDepth 100000 in
theorem i155_65 : INS 155 65 = some (3, 1, 0, 0, .null, []) := rfl
set_option maxRecDepth 100000 in
theorem i155_66 : INS 155 66 = some (19, 1, 20, 0, .null, []) := rfl
set_option maxRecDepth 100000 in
theorem i155_67 : INS 155 67 = some (0, 1, 0, 2, .null, []) := rfl
set_option maxRecDepth 100000 in
theorem i155_68 : INS 155 68 = some (16, 3, 11, 20, .null, []) := rfl
set_option maxRecDepth 100000 in
theorem i155_71 : INS 155 71 = some (0, 1, 3, 0, .null, []) := rfl
set_option maxRecDepth 100000 in
theorem i155_72 : INS 155 72 = some (2, 1, 0, 0, .int 0, []) := rfl
set_option maxRecDepth 100000 in
theorem i155_73 : INS 155 73 = some (19, 1, 22, 0, .null, []) := rfl
set_option maxRecDepth 100000 in
theorem i155_74 : INS 155 74 = some (0, 1, 0, 2, .null, []) := rfl
set_option maxRecDepth 100000 in
theorem i155_75 : INS 155 75 = some (16, 3, 11, 19, .null, []) := rfl
set_option maxRecDepth 100000 in
theorem i155_78 : INS 155 78 = some (0, 1, 3, 0, .null, []) := rfl
set_option maxRecDepth 100000 in
theorem i155_79 : INS 155 79 = some (2, 1, 0, 0, .int 0, []) := rfl
set_option maxRecDepth 100000 in
theorem i155_80 : INS 155 80 = some (19, 1, 20, 0, .null, []) := rfl
set_option maxRecDepth 100000 in
theorem i155_81 : INS 155 81 = some (0, 1, 0, 2, .null, []) := rfl
set_option maxRecDepth 100000 in
theorem i155_82 : INS 155 82 = some (16, 3, 11, 39, .null, []) := rfl
set_option maxRecDepth 100000 in
theorem i155_85 : INS 155 85 = some (0, 1, 2, 0, .null, []) := rfl
set_option maxRecDepth 100000 in
theorem i155_86 : INS 155 86 = some (8, 1, 2, 0, .null, []) := rfl
set_option maxRecDepth 100000 in
theorem i155_87 : INS 155 87 = some (18, 1, 20, 0, .null, []) := rfl
set_option maxRecDepth 100000 in
theorem i155_88 : INS 155 88 = some (2, 1, 0, 0, .int 1, []) := rfl
set_option maxRecDepth 100000 in
theorem i155_89 : INS 155 89 = some (3, 1, 0, 0, .null, []) := rfl
set_option maxRecDepth 100000 in
theorem i155_90 : INS 155 90 = some (19, 1, 20, 0, .null, []) := rfl
set_option maxRecDepth 100000 in
theorem i155_91 : INS 155 91 = some (0, 1, 0, 2, .null, []) := rfl
set_option maxRecDepth 100000 in
theorem i155_92 : INS 155 92 = some (16, 3, 11, 20, .null, []) := rfl
set_option maxRecDepth 100000 in
theorem i155_95 : INS 155 95 = some (0, 1, 3, 0, .null, []) := rfl
set_option maxRecDepth 100000 in
theorem i155_96 : INS 155 96 = some (18, 1, 22, 0, .null, []) := rfl
set_option maxRecDepth 100000 in
theorem i155_97 : INS 155 97 = some (9, 3, 218, 1, .null, []) := rfl
set_option maxRecDepth 100000 in
theorem i155_100 : INS 155 100 = some (0, 1, 0, 2, .null, []) := rfl
set_option maxRecDepth 100000 in
theorem i155_101 : INS 155 101 = some (16, 3, 11, 18, .null, []) := rfl
set_option maxRecDepth 100000 in
theorem i155_104 : INS 155 104 = some (0, 1, 3, 0, .null, []) := rfl
set_option maxRecDepth 100000 in
theorem i155_105 : INS 155 105 = some (18, 1, 20, 0, .null, []) := rfl
set_option maxRecDepth 100000 in
theorem i155_106 : INS 155 106 = some (0, 1, 0, 2, .null, []) := rfl
set_option maxRecDepth 100000 in
theorem i155_107 : INS 155 107 = some (16, 3, 11, 2, .null, []) := rfl
set_option maxRecDepth 100000 in
theorem i155_110 : INS 155 110 = some (0, 2, 4, 0, .null, []) := rfl
set_option maxRecDepth 100000 in
theorem i155_112 : INS 155 112 = some (18, 1, 20, 0, .null, []) := rfl
set_option maxRecDepth 100000 in
theorem i155_113 : INS 155 113 = some (10, 3, 218, 4, .null, []) := rfl
set_option maxRecDepth 100000 in
theorem i155_116 : INS 155 116 = some (0, 1, 0, 2, .null, []) := rfl
set_option maxRecDepth 100000 in
theorem i155_117 : INS 155 117 = some (16, 3, 11, 21, .null, []) := rfl
set_option maxRecDepth 100000 in
theorem i155_120 : INS 155 120 = some (2, 1, 0, 0, .int 2, []) := rfl
set_option maxRecDepth 100000 in
theorem i155_121 : INS 155 121 = some (0, 1, 3, 0, .null, []) := rfl
set_option maxRecDepth 100000 in
theorem i155_122 : INS 155 122 = some (3, 1, 2, 0, .null, []) := rfl
set_option maxRecDepth 100000 in
theorem i155_123 : INS 155 123 = some (18, 1, 20, 0, .null, []) := rfl
set_option maxRecDepth 100000 in
theorem i155_124 : INS 155 124 = some (0, 1, 0, 2, .null, []) := rfl
set_option maxRecDepth 100000 in
theorem i155_125 : INS 155 125 = some (16, 3, 11, 6, .null, []) := rfl
set_option maxRecDepth 100000 in
theorem i155_128 : INS 155 128 = some (2, 1, 0, 0, .int 2, []) := rfl
set_option maxRecDepth 100000 in
theorem i155_129 : INS 155 129 = some (0, 2, 4, 0, .null, []) := rfl
set_option maxRecDepth 100000 in
theorem i155_131 : INS 155 131 = some (3, 1, 2, 0, .null, []) := rfl
set_option maxRecDepth 100000 in
theorem i155_132 : INS 155 132 = some (18, 1, 20, 0, .null, []) := rfl
set_option maxRecDepth 100000 in
theorem i155_133 : INS 155 133 = some (10, 3, 218, 2, .null, []) := rfl
set_option maxRecDepth 100000 in
theorem i155_136 : INS 155 136 = some (0, 1, 0, 2, .null, []) := rfl
set_option maxRecDepth 100000 in
theorem i155_137 : INS 155 137 = some (16, 3, 11, 21, .null, []) := rfl
set_option maxRecDepth 100000 in
theorem i155_140 : INS 155 140 = some (2, 1, 0, 0, .int 2, []) := rfl
set_option maxRecDepth 100000 in
theorem i155_141 : INS 155 141 = some (0, 1, 3, 0, .null, []) := rfl
set_option maxRecDepth 100000 in
theorem i155_142 : INS 155 142 = some (3, 1, 2, 0, .null, []) := rfl
set_option maxRecDepth 100000 in
theorem i155_143 : INS 155 143 = some (2, 1, 0, 0, .int 1, []) := rfl
set_option maxRecDepth 100000 in
theorem i155_144 : INS 155 144 = some (3, 1, 0, 0, .null, []) := rfl
set_option maxRecDepth 100000 in
theorem i155_145 : INS 155 145 = some (18, 1, 20, 0, .null, []) := rfl
set_option maxRecDepth 100000 in
theorem i155_146 : INS 155 146 = some (0, 1, 0, 2, .null, []) := rfl
set_option maxRecDepth 100000 in
theorem i155_147 : INS 155 147 = some (16, 3, 11, 6, .null, []) := rfl
set_option maxRecDepth 100000 in
theorem i155_150 : INS 155 150 = some (2, 1, 0, 0, .int 2, []) := rfl
set_option maxRecDepth 100000 in
theorem i155_151 : INS 155 151 = some (0, 2, 4, 0, .null, []) := rfl
set_option maxRecDepth 100000 in
theorem i155_153 : INS 155 153 = some (3, 1, 2, 0, .null, []) := rfl
set_option maxRecDepth 100000 in
theorem i155_154 : INS 155 154 = some (2, 1, 0, 0, .int 1, []) := rfl
set_option maxRecDepth 100000 in
theorem i155_155 : INS 155 155 = some (3, 1, 0, 0, .null, []) := rfl
set_option maxRecDepth 100000 in
theorem i155_156 : INS 155 156 = some (18, 1, 20, 0, .null, []) := rfl
set_option maxRecDepth 100000 in
theorem i155_157 : INS 155 157 = some (10, 3, 218, 2, .null, []) := rfl
set_option maxRecDepth 100000 in
theorem i155_160 : INS 155 160 = some (0, 1, 0, 2, .null, []) := rfl
set_option maxRecDepth 100000 in
theorem i155_161 : INS 155 161 = some (16, 3, 11, 21, .null, []) := rfl
set_option maxRecDepth 100000 in
theorem i155_164 : INS 155 164 = some (2, 1, 0, 0, .int 2, []) := rfl
set_option maxRecDepth 100000 in
theorem i155_165 : INS 155 165 = some (0, 1, 3, 0, .null, []) := rfl
set_option maxRecDepth 100000 in
theorem i155_166 : INS 155 166 = some (3, 1, 2, 0, .null, []) := rfl
set_option maxRecDepth 100000 in
theorem i155_167 : INS 155 167 = some (8, 1, 2, 0, .null, []) := rfl
set_option maxRecDepth 100000 in
theorem i155_168 : INS 155 168 = some (18, 1, 20, 0, .null, []) := rfl
set_option maxRecDepth 100000 in
theorem i155_169 : INS 155 169 = some (0, 1, 0, 2, .null, []) := rfl
set_option maxRecDepth 100000 in
theorem i155_170 : INS 155 170 = some (16, 3, 11, 6, .null, []) := rfl
set_option maxRecDepth 100000 in
theorem i155_173 : INS 155 173 = some (2, 1, 0, 0, .int 2, []) := rfl
set_option maxRecDepth 100000 in
theorem i155_174 : INS 155 174 = some (0, 2, 4, 0, .null, []) := rfl
set_option maxRecDepth 100000 in
theorem i155_176 : INS 155 176 = some (3, 1, 2, 0, .null, []) := rfl
set_option maxRecDepth 100000 in
theorem i155_177 : INS 155 177 = some (18, 1, 20, 0, .null, []) := rfl
set_option maxRecDepth 100000 in
theorem i155_178 : INS 155 178 = some (3, 1, 1, 0, .null, []) := rfl
set_option maxRecDepth 100000 in
theorem i155_179 : INS 155 179 = some (19, 1, 20, 0, .null, []) := rfl
set_option maxRecDepth 100000 in
theorem i155_180 : INS 155 180 = some (0, 1, 0, 2, .null, []) := rfl
set_option maxRecDepth 100000 in
theorem i155_181 : INS 155 181 = some (16, 3, 11, 21, .null, []) := rfl
set_option maxRecDepth 100000 in
theorem i155_184 : INS 155 184 = some (2, 1, 0, 0, .int 2, []) := rfl
set_option maxRecDepth 100000 in
theorem i155_185 : INS 155 185 = some (0, 1, 3, 0, .null, []) := rfl
set_option maxRecDepth 100000 in
theorem i155_186 : INS 155 186 = some (3, 1, 2, 0, .null, []) := rfl
set_option maxRecDepth 100000 in
theorem i155_187 : INS 155 187 = some (2, 1, 0, 0, .int 1, []) := rfl
set_option maxRecDepth 100000 in
theorem i155_188 : INS 155 188 = some (3, 1, 0, 0, .null, []) := rfl
set_option maxRecDepth 100000 in
theorem i155_189 : INS 155 189 = some (8, 1, 2, 0, .null, []) := rfl
set_option maxRecDepth 100000 in
theorem i155_190 : INS 155 190 = some (18, 1, 20, 0, .null, []) := rfl
set_option maxRecDepth 100000 in
theorem i155_191 : INS 155 191 = some (0, 1, 0, 2, .null, []) := rfl
set_option maxRecDepth 100000 in
theorem i155_192 : INS 155 192 = some (16, 3, 11, 6, .null, []) := rfl
set_option maxRecDepth 100000 in
theorem i155_195 : INS 155 195 = some (2, 1, 0, 0, .int 2, []) := rfl
set_option maxRecDepth 100000 in
theorem i155_196 : INS 155 196 = some (0, 2, 4, 0, .null, []) := rfl
set_option maxRecDepth 100000 in
theorem i155_198 : INS 155 198 = some (3, 1, 2, 0, .null, []) := rfl
set_option maxRecDepth 100000 in
theorem i155_199 : INS 155 199 = some (2, 1, 0, 0, .int 1, []) := rfl
set_option maxRecDepth 100000 in
theorem i155_200 : INS 155 200 = some (3, 1, 0, 0, .null, []) := rfl
set_option maxRecDepth 100000 in
theorem i155_201 : INS 155 201 = some (18, 1, 20, 0, .null, []) := rfl
set_option maxRecDepth 100000 in
theorem i155_202 : INS 155 202 = some (3, 1, 1, 0, .null, []) := rfl
set_option maxRecDepth 100000 in
theorem i155_203 : INS 155 203 = some (19, 1, 20, 0, .null, []) := rfl
set_option maxRecDepth 100000 in
theorem i155_204 : INS 155 204 = some (0, 1, 0, 2, .null, []) := rfl
set_option maxRecDepth 100000 in
theorem i155_205 : INS 155 205 = some (16, 3, 11, 20, .null, []) := rfl
set_option maxRecDepth 100000 in
theorem i155_208 : INS 155 208 = some (0, 1, 3, 0, .null, []) := rfl
set_option maxRecDepth 100000 in
theorem i155_209 : INS 155 209 = some (2, 1, 0, 0, .int 1, []) := rfl
set_option maxRecDepth 100000 in
theorem i155_210 : INS 155 210 = some (19, 1, 22, 0, .null, []) := rfl
set_option maxRecDepth 100000 in
theorem i155_211 : INS 155 211 = some (0, 1, 0, 2, .null, []) := rfl
set_option maxRecDepth 100000 in
theorem i155_212 : INS 155 212 = some (16, 3, 11, 19, .null, []) := rfl
set_option maxRecDepth 100000 in
theorem i155_215 : INS 155 215 = some (0, 1, 3, 0, .null, []) := rfl
set_option maxRecDepth 100000 in
theorem i155_216 : INS 155 216 = some (2, 1, 0, 0, .int 0, []) := rfl
set_option maxRecDepth 100000 in
theorem i155_217 : INS 155 217 = some (19, 1, 20, 0, .null, []) := rfl
set_option maxRecDepth 100000 in
theorem i155_218 : INS 155 218 = some (27, 1, 3, 0, .null, []) := rfl
set_option maxRecDepth 100000 in
theorem i156_0 : INS 156 0 = some (0, 1, 0, 2, .null, []) := rfl
set_option maxRecDepth 100000 in
theorem i156_1 : INS 156 1 = some (16, 3, 11, 8, .null, []) := rfl
set_option maxRecDepth 100000 in
theorem i156_4 : INS 156 4 = some (0, 1, 2, 0, .null, []) := rfl
set_option maxRecDepth 100000 in
theorem i156_5 : INS 156 5 = some (18, 1, 20, 0, .null, []) := rfl
set_option maxRecDepth 100000 in
theorem i156_6 : INS 156 6 = some (2, 2, 0, 0, .int 6, []) := rfl
set_option maxRecDepth 100000 in
theorem i156_8 : INS 156 8 = some (10, 3, 44, 1, .null, []) := rfl
set_option maxRecDepth 100000 in
theorem i156_11 : INS 156 11 = some (0, 1, 0, 2, .null, []) := rfl
set_option maxRecDepth 100000 in
theorem i156_12 : INS 156 12 = some (16, 3, 11, 18, .null, []) := rfl
set_option maxRecDepth 100000 in
theorem i156_15 : INS 156 15 = some (2, 3, 0, 0, .int 144, []) := rfl
set_option maxRecDepth 100000 in
theorem i156_18 : INS 156 18 = some (0, 1, 1, 0, .null, []) := rfl
set_option maxRecDepth 100000 in
theorem i156_19 : INS 156 19 = some (3, 1, 2, 0, .null, []) := rfl
set_option maxRecDepth 100000 in
theorem i156_20 : INS 156 20 = some (0, 1, 2, 0, .null, []) := rfl
set_option maxRecDepth 100000 in
theorem i156_21 : INS 156 21 = some (3, 1, 0, 0, .null, []) := rfl
set_option maxRecDepth 100000 in
theorem i156_22 : INS 156 22 = some (18, 1, 20, 0, .null, []) := rfl
set_option maxRecDepth 100000 in
theorem i156_23 : INS 156 23 = some (9, 3, 40, 5, .null, []) := rfl
set_option maxRecDepth 100000 in
theorem i156_26 : INS 156 26 = some (0, 1, 0, 2, .null, []) := rfl
set_option maxRecDepth 100000 in
theorem i156_27 : INS 156 27 = some (16, 3, 11, 3, .null, []) := rfl
set_option maxRecDepth 100000 in
theorem i156_30 : INS 156 30 = some (0, 1, 0, 2, .null, []) := rfl
set_option maxRecDepth 100000 in
theorem i156_31 : INS 156 31 = some (16, 3, 11, 10, .null, []) := rfl
set_option maxRecDepth 100000 in
theorem i156_34 : INS 156 34 = some (0, 1, 2, 0, .null, []) := rfl
set_option maxRecDepth 100000 in
theorem i156_35 : INS 156 35 = some (18, 1, 20, 0, .null, []) := rfl
set_option maxRecDepth 100000 in
theorem i156_36 : INS 156 36 = some (18, 1, 20, 0, .null, []) := rfl
set_option maxRecDepth 100000 in
theorem i156_37 : INS 156 37 = some (12, 3, 56, 0, .null, []) := rfl
set_option maxRecDepth 100000 in
theorem i156_40 : INS 156 40 = some (2, 1, 0, 0, .int 0, []) := rfl
set_option maxRecDepth 100000 in
theorem i156_41 : INS 156 41 = some (12, 3, 56, 0, .null, []) := rfl
set_option maxRecDepth 100000 in
theorem i156_44 : INS 156 44 = some (0, 1, 0, 2, .null, []) := rfl
set_option maxRecDepth 100000 in
theorem i156_45 : INS 156 45 = some (16, 3, 11, 16, .null, []) := rfl
set_option maxRecDepth 100000 in
theorem i156_48 : INS 156 48 = some (2, 3, 0, 0, .int 144, []) := rfl
set_option maxRecDepth 100000 in
theorem i156_51 : INS 156 51 = some (0, 1, 1, 0, .null, []) := rfl
set_option maxRecDepth 100000 in
theorem i156_52 : INS 156 52 = some (3, 1, 2, 0, .null, []) := rfl
set_option maxRecDepth 100000 in
theorem i156_53 : INS 156 53 = some (0, 1, 2, 0, .null, []) := rfl
set_option maxRecDepth 100000 in
theorem i156_54 : INS 156 54 = some (3, 1, 0, 0, .null, []) := rfl
set_option maxRecDepth 100000 in
theorem i156_55 : INS 156 55 = some (18, 1, 20, 0, .null, []) := rfl
set_option maxRecDepth 100000 in
theorem i156_56 : INS 156 56 = some (27, 1, 0, 0, .null, []) := rfl
set_option maxRecDepth 100000 in
theorem i157_0 : INS 157 0 = some (2, 3, 0, 0, .int 144, []) := rfl
set_option maxRecDepth 100000 in
theorem i157_3 : INS 157 3 = some (0, 1, 1, 0, .null, []) := rfl
set_option maxRecDepth 100000 in
theorem i157_4 : INS 157 4 = some (3, 1, 2, 0, .null, []) := rfl
set_option maxRecDepth 100000 in
theorem i157_5 : INS 157 5 = some (0, 1, 2, 0, .null, []) := rfl
set_option maxRecDepth 100000 in
theorem i157_6 : INS 157 6 = some (3, 1, 0, 0, .null, []) := rfl
set_option maxRecDepth 100000 in
theorem i157_7 : INS 157 7 = some (1, 2, 6, 0, .null, []) := rfl
set_option maxRecDepth 100000 in
theorem i157_9 : INS 157 9 = some (0, 1, 0, 2, .null, []) := rfl
set_option maxRecDepth 100000 in
theorem i157_10 : INS 157 10 = some (16, 3, 11, 8, .null, []) := rfl
set_option maxRecDepth 100000 in
theorem i157_13 : INS 157 13 = some (0, 1, 2, 0, .null, []) := rfl
set_option maxRecDepth 100000 in
theorem i157_14 : INS 157 14 = some (18, 1, 20, 0, .null, []) := rfl
set_option maxRecDepth 100000 in
theorem i157_15 : INS 157 15 = some (13, 41, 191, 1, .null, [56, 56, 83, 126, 191, 156, 189]) := rfl
set_option maxRecDepth 100000 in
theorem i157_56 : INS 157 56 = some (0, 1, 0, 2, .null, []) := rfl
set_option maxRecDepth 100000 in
theorem i157_57 : INS 157 57 = some (16, 3, 11, 16, .null, []) := rfl
set_option maxRecDepth 100000 in
theorem i157_60 : INS 157 60 = some (0, 2, 6, 0, .null, []) := rfl
set_option maxRecDepth 100000 in
theorem i157_62 : INS 157 62 = some (18, 1, 20, 0, .null, []) := rfl
set_option maxRecDepth 100000 in
theorem i157_63 : INS 157 63 = some (9, 3, 81, 1, .null, []) := rfl
set_option maxRecDepth 100000 in
theorem i157_66 : INS 157 66 = some (0, 1, 0, 2, .null, []) := rfl
set_option maxRecDepth 100000 in
theorem i157_67 : INS 157 67 = some (16, 3, 11, 9, .null, []) := rfl
set_option maxRecDepth 100000 in
theorem i157_70 : INS 157 70 = some (0, 1, 2, 0, .null, []) := rfl
set_option maxRecDepth 100000 in
theorem i157_71 : INS 157 71 = some (18, 1, 20, 0, .null, []) := rfl
set_option maxRecDepth 100000 in
theorem i157_72 : INS 157 72 = some (0, 2, 4, 0, .null, []) := rfl
set_option maxRecDepth 100000 in
theorem i157_74 : INS 157 74 = some (10, 3, 81, 0, .null, []) := rfl
set_option maxRecDepth 100000 in
theorem i157_77 : INS 157 77 = some (2, 1, 0, 0, .int 1, []) := rfl
set_option maxRecDepth 100000 in
theorem i157_78 : INS 157 78 = some (12, 3, 82, 0, .null, []) := rfl
set_option maxRecDepth 100000 in
theorem i157_81 : INS 157 81 = some (2, 1, 0, 0, .int 0, []) := rfl
set_option maxRecDepth 100000 in
theorem i157_82 : INS 157 82 = some (27, 1, 0, 0, .null, []) := rfl
set_option maxRecDepth 100000 in
theorem i157_83 : INS 157 83 = some (0, 1, 0, 2, .null, []) := rfl
set_option maxRecDepth 100000 in
theorem i157_84 : INS 157 84 = some (16, 3, 11, 16, .null, []) := rfl
set_option maxRecDepth 100000 in
theorem i157_87 : INS 157 87 = some (0, 2, 6, 0, .null, []) := rfl
set_option maxRecDepth 100000 in
theorem i157_89 : INS 157 89 = some (18, 1, 20, 0, .null, []) := rfl
set_option maxRecDepth 100000 in
theorem i157_90 : INS 157 90 = some (9, 3, 124, 1, .null, []) := rfl
set_option maxRecDepth 100000 in
theorem i157_93 : INS 157 93 = some (0, 1, 0, 2, .null, []) := rfl
set_option maxRecDepth 100000 in
theorem i157_94 : INS 157 94 = some (16, 3, 11, 8, .null, []) := rfl
set_option maxRecDepth 100000 in
theorem i157_97 : INS 157 97 = some (0, 2, 5, 0, .null, []) := rfl
set_option maxRecDepth 100000 in
theorem i157_99 : INS 157 99 = some (18, 1, 20, 0, .null, []) := rfl
set_option maxRecDepth 100000 in
theorem i157_100 : INS 157 100 = some (2, 1, 0, 0, .int 2, []) := rfl
set_option maxRecDepth 100000 in
theorem i157_101 : INS 157 101 = some (10, 3, 124, 1, .null, []) := rfl
set_option maxRecDepth 100000 in
theorem i157_104 : INS 157 104 = some (0, 1, 0, 2, .null, []) := rfl
set_option maxRecDepth 100000 in
theorem i157_105 : INS 157 105 = some (16, 3, 11, 9, .null, []) := rfl
set_option maxRecDepth 100000 in
theorem i157_108 : INS 157 108 = some (0, 2, 5, 0, .null, []) := rfl
set_option maxRecDepth 100000 in
theorem i157_110 : INS 157 110 = some (18, 1, 20, 0, .null, []) := rfl
set_option maxRecDepth 100000 in
theorem i157_111 : INS 157 111 = some (0, 1, 0, 2, .null, []) := rfl
set_option maxRecDepth 100000 in
theorem i157_112 : INS 157 112 = some (16, 3, 11, 9, .null, []) := rfl
set_option maxRecDepth 100000 in
theorem i157_115 : INS 157 115 = some (0, 1, 2, 0, .null, []) := rfl
set_option maxRecDepth 100000 in
theorem i157_116 : INS 157 116 = some (18, 1, 20, 0, .null, []) := rfl
set_option maxRecDepth 100000 in
theorem i157_117 : INS 157 117 = some (10, 3, 124, 1, .null, []) := rfl
set_option maxRecDepth 100000 in
theorem i157_120 : INS 157 120 = some (2, 1, 0, 0, .int 1, []) := rfl
set_option maxRecDepth 100000 in
theorem i157_121 : INS 157 121 = some (12, 3, 125, 0, .null, []) := rfl
set_option maxRecDepth 100000 in
theorem i157_124 : INS 157 124 = some (2, 1, 0, 0, .int 0, []) := rfl
set_option maxRecDepth 100000 in
theorem i157_125 : INS 157 125 = some (27, 1, 0, 0, .null, []) := rfl
set_option maxRecDepth 100000 in
theorem i157_126 : INS 157 126 = some (0, 1, 0, 2, .null, []) := rfl
set_option maxRecDepth 100000 in
theorem i157_127 : INS 157 127 = some (16, 3, 11, 16, .null, []) := rfl
set_option maxRecDepth 100000 in
theorem i157_130 : INS 157 130 = some (0, 2, 6, 0, .null, []) := rfl
set_option maxRecDepth 100000 in
theorem i157_132 : INS 157 132 = some (18, 1, 20, 0, .null, []) := rfl
set_option maxRecDepth 100000 in
theorem i157_133 : INS 157 133 = some (9, 3, 154, 1, .null, []) := rfl
set_option maxRecDepth 100000 in
theorem i157_136 : INS 157 136 = some (0, 1, 0, 2, .null, []) := rfl
set_option maxRecDepth 100000 in
theorem i157_137 : INS 157 137 = some (16, 3, 11, 9, .null, []) := rfl
set_option maxRecDepth 100000 in
theorem i157_140 : INS 157 140 = some (0, 1, 2, 0, .null, []) := rfl
set_option maxRecDepth 100000 in
theorem i157_141 : INS 157 141 = some (18, 1, 20, 0, .null, []) := rfl
set_option maxRecDepth 100000 in
theorem i157_142 : INS 157 142 = some (0, 2, 4, 0, .null, []) := rfl
set_option maxRecDepth 100000 in
theorem i157_144 : INS 157 144 = some (3, 1, 9, 0, .null, []) := rfl
set_option maxRecDepth 100000 in
theorem i157_145 : INS 157 145 = some (2, 1, 0, 0, .int 1, []) := rfl
set_option maxRecDepth 100000 in
theorem i157_146 : INS 157 146 = some (3, 1, 5, 0, .null, []) := rfl
set_option maxRecDepth 100000 in
theorem i157_147 : INS 157 147 = some (9, 3, 154, 1, .null, []) := rfl
set_option maxRecDepth 100000 in
theorem i157_150 : INS 157 150 = some (2, 1, 0, 0, .int 1, []) := rfl
set_option maxRecDepth 100000 in
theorem i157_151 : INS 157 151 = some (12, 3, 155, 0, .null, []) := rfl
set_option maxRecDepth 100000 in
theorem i157_154 : INS 157 154 = some (2, 1, 0, 0, .int 0, []) := rfl
set_option maxRecDepth 100000 in
theorem i157_155 : INS 157 155 = some (27, 1, 0, 0, .null, []) := rfl
set_option maxRecDepth 100000 in
theorem i157_156 : INS 157 156 = some (0, 1, 0, 2, .null, []) := rfl
set_option maxRecDepth 100000 in
theorem i157_157 : INS 157 157 = some (16, 3, 11, 9, .null, []) := rfl
set_option maxRecDepth 100000 in
theorem i157_160 : INS 157 160 = some (0, 1, 2, 0, .null, []) := rfl
set_option maxRecDepth 100000 in
theorem i157_161 : INS 157 161 = some (18, 1, 20, 0, .null, []) := rfl
set_option maxRecDepth 100000 in
theorem i157_162 : INS 157 162 = some (0, 2, 4, 0, .null, []) := rfl
set_option maxRecDepth 100000 in
theorem i157_164 : INS 157 164 = some (10, 3, 187, 0, .null, []) := rfl
set_option maxRecDepth 100000 in
theorem i157_167 : INS 157 167 = some (0, 1, 0, 2, .null, []) := rfl
set_option maxRecDepth 100000 in
theorem i157_168 : INS 157 168 = some (0, 2, 6, 0, .null, []) := rfl
set_option maxRecDepth 100000 in
theorem i157_170 : INS 157 170 = some (0, 1, 0, 2, .null, []) := rfl
set_option maxRecDepth 100000 in
theorem i157_171 : INS 157 171 = some (16, 3, 11, 10, .null, []) := rfl
set_option maxRecDepth 100000 in
theorem i157_174 : INS 157 174 = some (0, 1, 2, 0, .null, []) := rfl
set_option maxRecDepth 100000 in
theorem i157_175 : INS 157 175 = some (18, 1, 20, 0, .null, []) := rfl
set_option maxRecDepth 100000 in
theorem i157_176 : INS 157 176 = some (0, 1, 3, 0, .null, []) := rfl
set_option maxRecDepth 100000 in
theorem i157_177 : INS 157 177 = some (24, 3, 158, 0, .null, []) := rfl
set_option maxRecDepth 100000 in
theorem i157_180 : INS 157 180 = some (9, 3, 187, 0, .null, []) := rfl
set_option maxRecDepth 100000 in
theorem i157_183 : INS 157 183 = some (2, 1, 0, 0, .int 1, []) := rfl
set_option maxRecDepth 100000 in
theorem i157_184 : INS 157 184 = some (12, 3, 188, 0, .null, []) := rfl
set_option maxRecDepth 100000 in
theorem i157_187 : INS 157 187 = some (2, 1, 0, 0, .int 0, []) := rfl
set_option maxRecDepth 100000 in
theorem i157_188 : INS 157 188 = some (27, 1, 0, 0, .null, []) := rfl
set_option maxRecDepth 100000 in
theorem i157_189 : INS 157 189 = some (2, 1, 0, 0, .int 1, []) := rfl
set_option maxRecDepth 100000 in
theorem i157_190 : INS 157 190 = some (27, 1, 0, 0, .null, []) := rfl
set_option maxRecDepth 100000 in
theorem i157_191 : INS 157 191 = some (2, 1, 0, 0, .int 0, []) := rfl
set_option maxRecDepth 100000 in
theorem i157_192 : INS 157 192 = some (27, 1, 0, 0, .null, []) := rfl
set_option maxRecDepth 100000 in
theorem i158_0 : INS 158 0 = some (0, 1, 0, 2, .null, []) := rfl
set_option maxRecDepth 100000 in
theorem i158_1 : INS 158 1 = some (16, 3, 11, 5, .null, []) := rfl
set_option maxRecDepth 100000 in
theorem i158_4 : INS 158 4 = some (2, 1, 0, 0, .int 2, []) := rfl
set_option maxRecDepth 100000 in
theorem i158_5 : INS 158 5 = some (0, 1, 2, 0, .null, []) := rfl
set_option maxRecDepth 100000 in
theorem i158_6 : INS 158 6 = some (3, 1, 2, 0, .null, []) := rfl
set_option maxRecDepth 100000 in
theorem i158_7 : INS 158 7 = some (18, 1, 20, 0, .null, []) := rfl
set_option maxRecDepth 100000 in
theorem i158_8 : INS 158 8 = some (0, 1, 3, 0, .null, []) := rfl
set_option maxRecDepth 100000 in
theorem i158_9 : INS 158 9 = some (10, 3, 41, 1, .null, []) := rfl
set_option maxRecDepth 100000 in
theorem i158_12 : INS 158 12 = some (0, 1, 0, 2, .null, []) := rfl
set_option maxRecDepth 100000 in
theorem i158_13 : INS 158 13 = some (16, 3, 11, 21, .null, []) := rfl
set_option maxRecDepth 100000 in
theorem i158_16 : INS 158 16 = some (2, 1, 0, 0, .int 2, []) := rfl
set_option maxRecDepth 100000 in
theorem i158_17 : INS 158 17 = some (0, 1, 1, 0, .null, []) := rfl
set_option maxRecDepth 100000 in
theorem i158_18 : INS 158 18 = some (3, 1, 2, 0, .null, []) := rfl
set_option maxRecDepth 100000 in
theorem i158_19 : INS 158 19 = some (18, 1, 20, 0, .null, []) := rfl
set_option maxRecDepth 100000 in
theorem i158_20 : INS 158 20 = some (2, 1, 0, 0, .int 2, []) := rfl
set_option maxRecDepth 100000 in
theorem i158_21 : INS 158 21 = some (0, 1, 0, 2, .null, []) := rfl
set_option maxRecDepth 100000 in
theorem i158_22 : INS 158 22 = some (16, 3, 11, 6, .null, []) := rfl
set_option maxRecDepth 100000 in
theorem i158_25 : INS 158 25 = some (2, 1, 0, 0, .int 2, []) := rfl
set_option maxRecDepth 100000 in
theorem i158_26 : INS 158 26 = some (0, 1, 2, 0, .null, []) := rfl
set_option maxRecDepth 100000 in
theorem i158_27 : INS 158 27 = some (3, 1, 2, 0, .null, []) := rfl
set_option maxRecDepth 100000 in
theorem i158_28 : INS 158 28 = some (18, 1, 20, 0, .null, []) := rfl
set_option maxRecDepth 100000 in
theorem i158_29 : INS 158 29 = some (3, 1, 2, 0, .null, []) := rfl
set_option maxRecDepth 100000 in
theorem i158_30 : INS 158 30 = some (10, 3, 37, 3, .null, []) := rfl
set_option maxRecDepth 100000 in
theorem i158_33 : INS 158 33 = some (2, 1, 0, 0, .int 1, []) := rfl
set_option maxRecDepth 100000 in
theorem i158_34 : INS 158 34 = some (12, 3, 85, 0, .null, []) := rfl
set_option maxRecDepth 100000 in
theorem i158_37 : INS 158 37 = some (2, 1, 0, 0, .int 0, []) := rfl
set_option maxRecDepth 100000 in
theorem i158_38 : INS 158 38 = some (12, 3, 85, 0, .null, []) := rfl
set_option maxRecDepth 100000 in
theorem i158_41 : INS 158 41 = some (0, 1, 0, 2, .null, []) := rfl
set_option maxRecDepth 100000 in
theorem i158_42 : INS 158 42 = some (16, 3, 11, 5, .null, []) := rfl
set_option maxRecDepth 100000 in
theorem i158_45 : INS 158 45 = some (2, 1, 0, 0, .int 2, []) := rfl
set_option maxRecDepth 100000 in
theorem i158_46 : INS 158 46 = some (0, 1, 2, 0, .null, []) := rfl
set_option maxRecDepth 100000 in
theorem i158_47 : INS 158 47 = some (3, 1, 2, 0, .null, []) := rfl
set_option maxRecDepth 100000 in
theorem i158_48 : INS 158 48 = some (2, 1, 0, 0, .int 1, []) := rfl
set_option maxRecDepth 100000 in
theorem i158_49 : INS 158 49 = some (3, 1, 0, 0, .null, []) := rfl
set_option maxRecDepth 100000 in
theorem i158_50 : INS 158 50 = some (18, 1, 20, 0, .null, []) := rfl
set_option maxRecDepth 100000 in
theorem i158_51 : INS 158 51 = some (0, 1, 3, 0, .null, []) := rfl
set_option maxRecDepth 100000 in
theorem i158_52 : INS 158 52 = some (10, 3, 84, 1, .null, []) := rfl
set_option maxRecDepth 100000 in
theorem i158_55 : INS 158 55 = some (0, 1, 0, 2, .null, []) := rfl
set_option maxRecDepth 100000 in
theorem i158_56 : INS 158 56 = some (16, 3, 11, 21, .null, []) := rfl
set_option maxRecDepth 100000 in
theorem i158_59 : INS 158 59 = some (2, 1, 0, 0, .int 2, []) := rfl
set_option maxRecDepth 100000 in
theorem i158_60 : INS 158 60 = some (0, 1, 1, 0, .null, []) := rfl
set_option maxRecDepth 100000 in
theorem i158_61 : INS 158 61 = some (3, 1, 2, 0, .null, []) := rfl
set_option maxRecDepth 100000 in
theorem i158_62 : INS 158 62 = some (2, 1, 0, 0, .int 1, []) := rfl
set_option maxRecDepth 100000 in
theorem i158_63 : INS 158 63 = some (3, 1, 0, 0, .null, []) := rfl
set_option maxRecDepth 100000 in
theorem i158_64 : INS 158 64 = some (18, 1, 20, 0, .null, []) := rfl
set_option maxRecDepth 100000 in
theorem i158_65 : INS 158 65 = some (2, 1, 0, 0, .int 2, []) := rfl
set_option maxRecDepth 100000 in
theorem i158_66 : INS 158 66 = some (0, 1, 0, 2, .null, []) := rfl
set_option maxRecDepth 100000 in
theorem i158_67 : INS 158 67 = some (16, 3, 11, 6, .null, []) := rfl
set_option maxRecDepth 100000 in
theorem i158_70 : INS 158 70 = some (2, 1, 0, 0, .int 2, []) := rfl
set_option maxRecDepth 100000 in
theorem i158_71 : INS 158 71 = some (0, 1, 2, 0, .null, []) := rfl
set_option maxRecDepth 100000 in
theorem i158_72 : INS 158 72 = some (3, 1, 2, 0, .null, []) := rfl
set_option maxRecDepth 100000 in
theorem i158_73 : INS 158 73 = some (2, 1, 0, 0, .int 1, []) := rfl
set_option maxRecDepth 100000 in
theorem i158_74 : INS 158 74 = some (3, 1, 0, 0, .null, []) := rfl
set_option maxRecDepth 100000 in
theorem i158_75 : INS 158 75 = some (18, 1, 20, 0, .null, []) := rfl
set_option maxRecDepth 100000 in
theorem i158_76 : INS 158 76 = some (3, 1, 2, 0, .null, []) := rfl
set_option maxRecDepth 100000 in
theorem i158_77 : INS 158 77 = some (10, 3, 84, 3, .null, []) := rfl
set_option maxRecDepth 100000 in
theorem i158_80 : INS 158 80 = some (2, 1, 0, 0, .int 1, []) := rfl
set_option maxRecDepth 100000 in
theorem i158_81 : INS 158 81 = some (12, 3, 85, 0, .null, []) := rfl
set_option maxRecDepth 100000 in
theorem i158_84 : INS 158 84 = some (2, 1, 0, 0, .int 0, []) := rfl
set_option maxRecDepth 100000 in
theorem i158_85 : INS 158 85 = some (27, 1, 0, 0, .null, []) := rfl
set_option maxRecDepth 100000 in
theorem i159_0 : INS 159 0 = some (0, 1, 0, 2, .null, []) := rfl
set_option maxRecDepth 100000 in
theorem i159_1 : INS 159 1 = some (16, 3, 11, 31, .null, []) := rfl
set_option maxRecDepth 100000 in
theorem i159_4 : INS 159 4 = some (0, 1, 3, 0, .null, []) := rfl
set_option maxRecDepth 100000 in
theorem i159_5 : INS 159 5 = some (18, 1, 20, 0, .null, []) := rfl
set_option maxRecDepth 100000 in
theorem i159_6 : INS 159 6 = some (2, 1, 0, 0, .int (-1), []) := rfl
set_option maxRecDepth 100000 in
theorem i159_7 : INS 159 7 = some (10, 3, 21, 0, .null, []) := rfl
set_option maxRecDepth 100000 in
theorem i159_10 : INS 159 10 = some (0, 2, 5, 0, .null, []) := rfl
set_option maxRecDepth 100000 in
theorem i159_12 : INS 159 12 = some (0, 1, 0, 2, .null, []) := rfl
set_option maxRecDepth 100000 in
theorem i159_13 : INS 159 13 = some (16, 3, 11, 32, .null, []) := rfl
set_option maxRecDepth 100000 in
theorem i159_16 : INS 159 16 = some (0, 1, 3, 0, .null, []) := rfl
set_option maxRecDepth 100000 in
theorem i159_17 : INS 159 17 = some (18, 1, 20, 0, .null, []) := rfl
set_option maxRecDepth 100000 in
theorem i159_18 : INS 159 18 = some (10, 3, 44, 3, .null, []) := rfl
set_option maxRecDepth 100000 in
theorem i159_21 : INS 159 21 = some (0, 1, 0, 2, .null, []) := rfl
set_option maxRecDepth 100000 in
theorem i159_22 : INS 159 22 = some (16, 3, 11, 31, .null, []) := rfl
set_option maxRecDepth 100000 in
theorem i159_25 : INS 159 25 = some (0, 1, 3, 0, .null, []) := rfl
set_option maxRecDepth 100000 in
theorem i159_26 : INS 159 26 = some (0, 1, 2, 0, .null, []) := rfl
set_option maxRecDepth 100000 in
theorem i159_27 : INS 159 27 = some (19, 1, 20, 0, .null, []) := rfl
set_option maxRecDepth 100000 in
theorem i159_28 : INS 159 28 = some (0, 1, 0, 2, .null, []) := rfl
set_option maxRecDepth 100000 in
theorem i159_29 : INS 159 29 = some (16, 3, 11, 32, .null, []) := rfl
set_option maxRecDepth 100000 in
theorem i159_32 : INS 159 32 = some (0, 1, 3, 0, .null, []) := rfl
set_option maxRecDepth 100000 in
theorem i159_33 : INS 159 33 = some (0, 2, 5, 0, .null, []) := rfl
set_option maxRecDepth 100000 in
theorem i159_35 : INS 159 35 = some (19, 1, 20, 0, .null, []) := rfl
set_option maxRecDepth 100000 in
theorem i159_36 : INS 159 36 = some (0, 1, 0, 2, .null, []) := rfl
set_option maxRecDepth 100000 in
theorem i159_37 : INS 159 37 = some (16, 3, 11, 33, .null, []) := rfl
set_option maxRecDepth 100000 in
theorem i159_40 : INS 159 40 = some (0, 1, 3, 0, .null, []) := rfl
set_option maxRecDepth 100000 in
theorem i159_41 : INS 159 41 = some (0, 2, 4, 0, .null, []) := rfl
set_option maxRecDepth 100000 in
theorem i159_43 : INS 159 43 = some (19, 1, 20, 0, .null, []) := rfl
set_option maxRecDepth 100000 in
theorem i159_44 : INS 159 44 = some (27, 1, 3, 0, .null, []) := rfl
set_option maxRecDepth 100000 in
theorem i161_0 : INS 161 0 = some (0, 1, 2, 0, .null, []) := rfl
set_option maxRecDepth 100000 in
theorem i161_1 : INS 161 1 = some (0, 1, 3, 0, .null, []) := rfl
set_option maxRecDepth 100000 in
theorem i161_2 : INS 161 2 = some (24, 3, 127, 2, .null, []) := rfl
set_option maxRecDepth 100000 in
theorem i161_5 : INS 161 5 = some (1, 2, 5, 0, .null, []) := rfl
set_option maxRecDepth 100000 in
theorem i161_7 : INS 161 7 = some (0, 1, 3, 0, .null, []) := rfl
set_option maxRecDepth 100000 in
theorem i161_8 : INS 161 8 = some (2, 1, 0, 0, .int 2, []) := rfl
set_option maxRecDepth 100000 in
theorem i161_9 : INS 161 9 = some (3, 1, 0, 0, .null, []) := rfl
set_option maxRecDepth 100000 in
theorem i161_10 : INS 161 10 = some (2, 1, 0, 0, .int 4, []) := rfl
set_option maxRecDepth 100000 in
theorem i161_11 : INS 161 11 = some (3, 1, 4, 0, .null, []) := rfl
set_option maxRecDepth 100000 in
theorem i161_12 : INS 161 12 = some (1, 2, 6, 0, .null, []) := rfl
set_option maxRecDepth 100000 in
theorem i161_14 : INS 161 14 = some (0, 2, 5, 0, .null, []) := rfl
set_option maxRecDepth 100000 in
theorem i161_16 : INS 161 16 = some (2, 1, 0, 0, .int (-1), []) := rfl
set_option maxRecDepth 100000 in
theorem i161_17 : INS 161 17 = some (10, 3, 35, 0, .null, []) := rfl
set_option maxRecDepth 100000 in
theorem i161_20 : INS 161 20 = some (0, 1, 0, 2, .null, []) := rfl
set_option maxRecDepth 100000 in
theorem i161_21 : INS 161 21 = some (0, 1, 1, 0, .null, []) := rfl
set_option maxRecDepth 100000 in
theorem i161_22 : INS 161 22 = some (0, 2, 5, 0, .null, []) := rfl
set_option maxRecDepth 100000 in
theorem i161_24 : INS 161 24 = some (0, 2, 4, 0, .null, []) := rfl
set_option maxRecDepth 100000 in
theorem i161_26 : INS 161 26 = some (0, 2, 6, 0, .null, []) := rfl
set_option maxRecDepth 100000 in
theorem i161_28 : INS 161 28 = some (0, 1, 2, 0, .null, []) := rfl
set_option maxRecDepth 100000 in
theorem i161_29 : INS 161 29 = some (24, 3, 157, 0, .null, []) := rfl
set_option maxRecDepth 100000 in
theorem i161_32 : INS 161 32 = some (9, 3, 37, 1, .null, []) := rfl
set_option maxRecDepth 100000 in
theorem i161_35 : INS 161 35 = some (2, 1, 0, 0, .int 0, []) := rfl
set_option maxRecDepth 100000 in
theorem i161_36 : INS 161 36 = some (27, 1, 0, 0, .null, []) := rfl
set_option maxRecDepth 100000 in
theorem i161_37 : INS 161 37 = some (0, 1, 0, 2, .null, []) := rfl
set_option maxRecDepth 100000 in
theorem i161_38 : INS 161 38 = some (0, 1, 1, 0, .null, []) := rfl
set_option maxRecDepth 100000 in
theorem i161_39 : INS 161 39 = some (0, 1, 2, 0, .null, []) := rfl
set_option maxRecDepth 100000 in
theorem i161_40 : INS 161 40 = some (0, 2, 5, 0, .null, []) := rfl
set_option maxRecDepth 100000 in
theorem i161_42 : INS 161 42 = some (0, 2, 6, 0, .null, []) := rfl
set_option maxRecDepth 100000 in
theorem i161_44 : INS 161 44 = some (0, 2, 6, 0, .null, []) := rfl
set_option maxRecDepth 100000 in
theorem i161_46 : INS 161 46 = some (0, 1, 0, 2, .null, []) := rfl
set_option maxRecDepth 100000 in
theorem i161_47 : INS 161 47 = some (16, 3, 11, 22, .null, []) := rfl
set_option maxRecDepth 100000 in
theorem i161_50 : INS 161 50 = some (2, 3, 0, 0, .int 144, []) := rfl
set_option maxRecDepth 100000 in
theorem i161_53 : INS 161 53 = some (0, 1, 1, 0, .null, []) := rfl
set_option maxRecDepth 100000 in
theorem i161_54 : INS 161 54 = some (3, 1, 2, 0, .null, []) := rfl
set_option maxRecDepth 100000 in
theorem i161_55 : INS 161 55 = some (0, 2, 5, 0, .null, []) := rfl
set_option maxRecDepth 100000 in
theorem i161_57 : INS 161 57 = some (3, 1, 0, 0, .null, []) := rfl
set_option maxRecDepth 100000 in
theorem i161_58 : INS 161 58 = some (18, 1, 20, 0, .null, []) := rfl
set_option maxRecDepth 100000 in
theorem i161_59 : INS 161 59 = some (3, 1, 1, 0, .null, []) := rfl
set_option maxRecDepth 100000 in
theorem i161_60 : INS 161 60 = some (2, 2, 0, 0, .int 7, []) := rfl
set_option maxRecDepth 100000 in
theorem i161_62 : INS 161 62 = some (3, 1, 0, 0, .null, []) := rfl
set_option maxRecDepth 100000 in
theorem i161_63 : INS 161 63 = some (2, 1, 0, 0, .int 4, []) := rfl
set_option maxRecDepth 100000 in
theorem i161_64 : INS 161 64 = some (3, 1, 4, 0, .null, []) := rfl
set_option maxRecDepth 100000 in
theorem i161_65 : INS 161 65 = some (24, 3, 159, 0, .null, []) := rfl
set_option maxRecDepth 100000 in
theorem i161_68 : INS 161 68 = some (2, 1, 0, 0, .int 1, []) := rfl
set_option maxRecDepth 100000 in
theorem i161_69 : INS 161 69 = some (27, 1, 0, 0, .null, []) := rfl
set_option maxRecDepth 100000 in
theorem i163_0 : INS 163 0 = some (2, 3, 0, 0, .int 144, []) := rfl
set_option maxRecDepth 100000 in
theorem i163_3 : INS 163 3 = some (0, 1, 1, 0, .null, []) := rfl
set_option maxRecDepth 100000 in
theorem i163_4 : INS 163 4 = some (3, 1, 2, 0, .null, []) := rfl
set_option maxRecDepth 100000 in
theorem i163_5 : INS 163 5 = some (0, 1, 2, 0, .null, []) := rfl
set_option maxRecDepth 100000 in
theorem i163_6 : INS 163 6 = some (3, 1, 0, 0, .null, []) := rfl
set_option maxRecDepth 100000 in
theorem i163_7 : INS 163 7 = some (1, 2, 4, 0, .null, []) := rfl
set_option maxRecDepth 100000 in
theorem i163_9 : INS 163 9 = some (0, 1, 0, 2, .null, []) := rfl
set_option maxRecDepth 100000 in
theorem i163_10 : INS 163 10 = some (16, 3, 11, 8, .null, []) := rfl
set_option maxRecDepth 100000 in
theorem i163_13 : INS 163 13 = some (0, 1, 2, 0, .null, []) := rfl
set_option maxRecDepth 100000 in
theorem i163_14 : INS 163 14 = some (18, 1, 20, 0, .null, []) := rfl
set_option maxRecDepth 100000 in
theorem i163_15 : INS 163 15 = some (2, 2, 0, 0, .int 6, []) := rfl
set_option maxRecDepth 100000 in
theorem i163_17 : INS 163 17 = some (10, 3, 34, 1, .null, []) := rfl
set_option maxRecDepth 100000 in
theorem i163_20 : INS 163 20 = some (0, 1, 0, 2, .null, []) := rfl
set_option maxRecDepth 100000 in
theorem i163_21 : INS 163 21 = some (16, 3, 11, 18, .null, []) := rfl
set_option maxRecDepth 100000 in
theorem i163_24 : INS 163 24 = some (0, 2, 4, 0, .null, []) := rfl
set_option maxRecDepth 100000 in
theorem i163_26 : INS 163 26 = some (8, 1, 2, 0, .null, []) := rfl
set_option maxRecDepth 100000 in
theorem i163_27 : INS 163 27 = some (18, 1, 20, 0, .null, []) := rfl
set_option maxRecDepth 100000 in
theorem i163_28 : INS 163 28 = some (2, 1, 0, 0, .int 1, []) := rfl
set_option maxRecDepth 100000 in
theorem i163_29 : INS 163 29 = some (3, 1, 1, 0, .null, []) := rfl
set_option maxRecDepth 100000 in
theorem i163_30 : INS 163 30 = some (19, 1, 20, 0, .null, []) := rfl
set_option maxRecDepth 100000 in
theorem i163_31 : INS 163 31 = some (12, 3, 42, 0, .null, []) := rfl
set_option maxRecDepth 100000 in
theorem i163_34 : INS 163 34 = some (0, 1, 0, 2, .null, []) := rfl
set_option maxRecDepth 100000 in
theorem i163_35 : INS 163 35 = some (16, 3, 11, 16, .null, []) := rfl
set_option maxRecDepth 100000 in
theorem i163_38 : INS 163 38 = some (0, 2, 4, 0, .null, []) := rfl
set_option maxRecDepth 100000 in
theorem i163_40 : INS 163 40 = some (2, 1, 0, 0, .int 0, []) := rfl
set_option maxRecDepth 100000 in
theorem i163_41 : INS 163 41 = some (19, 1, 20, 0, .null, []) := rfl
set_option maxRecDepth 100000 in
theorem i163_42 : INS 163 42 = some (0, 1, 0, 2, .null, []) := rfl
set_option maxRecDepth 100000 in
theorem i163_43 : INS 163 43 = some (16, 3, 11, 23, .null, []) := rfl
set_option maxRecDepth 100000 in
theorem i163_46 : INS 163 46 = some (0, 2, 4, 0, .null, []) := rfl
set_option maxRecDepth 100000 in
theorem i163_48 : INS 163 48 = some (0, 1, 0, 2, .null, []) := rfl
set_option maxRecDepth 100000 in
theorem i163_49 : INS 163 49 = some (16, 3, 11, 8, .null, []) := rfl
set_option maxRecDepth 100000 in
theorem i163_52 : INS 163 52 = some (0, 1, 2, 0, .null, []) := rfl
set_option maxRecDepth 100000 in
theorem i163_53 : INS 163 53 = some (18, 1, 20, 0, .null, []) := rfl
set_option maxRecDepth 100000 in
theorem i163_54 : INS 163 54 = some (2, 1, 0, 0, .int 4, []) := rfl
set_option maxRecDepth 100000 in
theorem i163_55 : INS 163 55 = some (10, 3, 62, 1, .null, []) := rfl
set_option maxRecDepth 100000 in
theorem i163_58 : INS 163 58 = some (0, 1, 3, 0, .null, []) := rfl
set_option maxRecDepth 100000 in
theorem i163_59 : INS 163 59 = some (12, 3, 69, 0, .null, []) := rfl
set_option maxRecDepth 100000 in
theorem i163_62 : INS 163 62 = some (0, 1, 0, 2, .null, []) := rfl
set_option maxRecDepth 100000 in
theorem i163_63 : INS 163 63 = some (16, 3, 11, 23, .null, []) := rfl
set_option maxRecDepth 100000 in
theorem i163_66 : INS 163 66 = some (0, 2, 4, 0, .null, []) := rfl
set_option maxRecDepth 100000 in
theorem i163_68 : INS 163 68 = some (18, 1, 20, 0, .null, []) := rfl
set_option maxRecDepth 100000 in
theorem i163_69 : INS 163 69 = some (19, 1, 20, 0, .null, []) := rfl
set_option maxRecDepth 100000 in
theorem i163_70 : INS 163 70 = some (0, 1, 0, 2, .null, []) := rfl
set_option maxRecDepth 100000 in
theorem i163_71 : INS 163 71 = some (16, 3, 11, 38, .null, []) := rfl
set_option maxRecDepth 100000 in
theorem i163_74 : INS 163 74 = some (0, 1, 2, 0, .null, []) := rfl
set_option maxRecDepth 100000 in
theorem i163_75 : INS 163 75 = some (8, 1, 2, 0, .null, []) := rfl
set_option maxRecDepth 100000 in
theorem i163_76 : INS 163 76 = some (18, 1, 20, 0, .null, []) := rfl
set_option maxRecDepth 100000 in
theorem i163_77 : INS 163 77 = some (2, 1, 0, 0, .int 1, []) := rfl
set_option maxRecDepth 100000 in
theorem i163_78 : INS 163 78 = some (3, 1, 0, 0, .null, []) := rfl
set_option maxRecDepth 100000 in
theorem i163_79 : INS 163 79 = some (19, 1, 20, 0, .null, []) := rfl
set_option maxRecDepth 100000 in
theorem i163_80 : INS 163 80 = some (0, 1, 0, 2, .null, []) := rfl
set_option maxRecDepth 100000 in
theorem i163_81 : INS 163 81 = some (2, 1, 0, 0, .int 1, []) := rfl
set_option maxRecDepth 100000 in
theorem i163_82 : INS 163 82 = some (17, 3, 11, 36, .null, []) := rfl
set_option maxRecDepth 100000 in
theorem i163_85 : INS 163 85 = some (27, 1, 3, 0, .null, []) := rfl
set_option maxRecDepth 100000 in
theorem i164_0 : INS 164 0 = some (2, 3, 0, 0, .int 144, []) := rfl
set_option maxRecDepth 100000 in
theorem i164_3 : INS 164 3 = some (0, 1, 1, 0, .null, []) := rfl
set_option maxRecDepth 100000 in
theorem i164_4 : INS 164 4 = some (3, 1, 2, 0, .null, []) := rfl
set_option maxRecDepth 100000 in
theorem i164_5 : INS 164 5 = some (0, 1, 2, 0, .null, []) := rfl
set_option maxRecDepth 100000 in
theorem i164_6 : INS 164 6 = some (3, 1, 0, 0, .null, []) := rfl
set_option maxRecDepth 100000 in
theorem i164_7 : INS 164 7 = some (1, 2, 4, 0, .null, []) := rfl
set_option maxRecDepth 100000 in
theorem i164_9 : INS 164 9 = some (0, 1, 0, 2, .null, []) := rfl
set_option maxRecDepth 100000 in
theorem i164_10 : INS 164 10 = some (16, 3, 11, 22, .null, []) := rfl
set_option maxRecDepth 100000 in
theorem i164_13 : INS 164 13 = some (0, 2, 4, 0, .null, []) := rfl
set_option maxRecDepth 100000 in
theorem i164_15 : INS 164 15 = some (0, 1, 0, 2, .null, []) := rfl
set_option maxRecDepth 100000 in
theorem i164_16 : INS 164 16 = some (16, 3, 11, 33, .null, []) := rfl
set_option maxRecDepth 100000 in
theorem i164_19 : INS 164 19 = some (0, 1, 2, 0, .null, []) := rfl
set_option maxRecDepth 100000 in
theorem i164_20 : INS 164 20 = some (18, 1, 20, 0, .null, []) := rfl
set_option maxRecDepth 100000 in
theorem i164_21 : INS 164 21 = some (19, 1, 20, 0, .null, []) := rfl
set_option maxRecDepth 100000 in
theorem i164_22 : INS 164 22 = some (0, 1, 0, 2, .null, []) := rfl
set_option maxRecDepth 100000 in
theorem i164_23 : INS 164 23 = some (16, 3, 11, 37, .null, []) := rfl
set_option maxRecDepth 100000 in
theorem i164_26 : INS 164 26 = some (0, 1, 2, 0, .null, []) := rfl
set_option maxRecDepth 100000 in
theorem i164_27 : INS 164 27 = some (8, 1, 2, 0, .null, []) := rfl
set_option maxRecDepth 100000 in
theorem i164_28 : INS 164 28 = some (18, 1, 20, 0, .null, []) := rfl
set_option maxRecDepth 100000 in
theorem i164_29 : INS 164 29 = some (2, 1, 0, 0, .int 1, []) := rfl
set_option maxRecDepth 100000 in
theorem i164_30 : INS 164 30 = some (3, 1, 0, 0, .null, []) := rfl
set_option maxRecDepth 100000 in
theorem i164_31 : INS 164 31 = some (19, 1, 20, 0, .null, []) := rfl
set_option maxRecDepth 100000 in
theorem i164_32 : INS 164 32 = some (0, 1, 0, 2, .null, []) := rfl
set_option maxRecDepth 100000 in
theorem i164_33 : INS 164 33 = some (16, 3, 11, 8, .null, []) := rfl
set_option maxRecDepth 100000 in
theorem i164_36 : INS 164 36 = some (0, 1, 2, 0, .null, []) := rfl
set_option maxRecDepth 100000 in
theorem i164_37 : INS 164 37 = some (18, 1, 20, 0, .null, []) := rfl
set_option maxRecDepth 100000 in
theorem i164_38 : INS 164 38 = some (2, 2, 0, 0, .int 7, []) := rfl
set_option maxRecDepth 100000 in
theorem i164_40 : INS 164 40 = some (10, 3, 74, 1, .null, []) := rfl
set_option maxRecDepth 100000 in
theorem i164_43 : INS 164 43 = some (0, 1, 0, 2, .null, []) := rfl
set_option maxRecDepth 100000 in
theorem i164_44 : INS 164 44 = some (8, 1, 0, 0, .null, []) := rfl
set_option maxRecDepth 100000 in
theorem i164_45 : INS 164 45 = some (16, 3, 11, 35, .null, []) := rfl
set_option maxRecDepth 100000 in
theorem i164_48 : INS 164 48 = some (2, 1, 0, 0, .int 1, []) := rfl
set_option maxRecDepth 100000 in
theorem i164_49 : INS 164 49 = some (3, 1, 0, 0, .null, []) := rfl
set_option maxRecDepth 100000 in
theorem i164_50 : INS 164 50 = some (17, 3, 11, 35, .null, []) := rfl
set_option maxRecDepth 100000 in
theorem i164_53 : INS 164 53 = some (0, 1, 0, 2, .null, []) := rfl
set_option maxRecDepth 100000 in
theorem i164_54 : INS 164 54 = some (16, 3, 11, 15, .null, []) := rfl
set_option maxRecDepth 100000 in
theorem i164_57 : INS 164 57 = some (0, 1, 3, 0, .null, []) := rfl
set_option maxRecDepth 100000 in
theorem i164_58 : INS 164 58 = some (8, 1, 2, 0, .null, []) := rfl
set_option maxRecDepth 100000 in
theorem i164_59 : INS 164 59 = some (18, 1, 20, 0, .null, []) := rfl
set_option maxRecDepth 100000 in
theorem i164_60 : INS 164 60 = some (0, 1, 1, 0, .null, []) := rfl
set_option maxRecDepth 100000 in
theorem i164_61 : INS 164 61 = some (9, 3, 68, 1, .null, []) := rfl
set_option maxRecDepth 100000 in
theorem i164_64 : INS 164 64 = some (2, 1, 0, 0, .int 1, []) := rfl
set_option maxRecDepth 100000 in
theorem i164_65 : INS 164 65 = some (12, 3, 69, 0, .null, []) := rfl
set_option maxRecDepth 100000 in
theorem i164_68 : INS 164 68 = some (2, 1, 0, 0, .int 0, []) := rfl
set_option maxRecDepth 100000 in
theorem i164_69 : INS 164 69 = some (3, 1, 0, 0, .null, []) := rfl
set_option maxRecDepth 100000 in
theorem i164_70 : INS 164 70 = some (19, 1, 20, 0, .null, []) := rfl
set_option maxRecDepth 100000 in
theorem i164_71 : INS 164 71 = some (12, 3, 135, 0, .null, []) := rfl
set_option maxRecDepth 100000 in
theorem i164_74 : INS 164 74 = some (0, 1, 0, 2, .null, []) := rfl
set_option maxRecDepth 100000 in
theorem i164_75 : INS 164 75 = some (16, 3, 11, 8, .null, []) := rfl
set_option maxRecDepth 100000 in
theorem i164_78 : INS 164 78 = some (0, 1, 2, 0, .null, []) := rfl
set_option maxRecDepth 100000 in
theorem i164_79 : INS 164 79 = some (18, 1, 20, 0, .null, []) := rfl
set_option maxRecDepth 100000 in
theorem i164_80 : INS 164 80 = some (2, 2, 0, 0, .int 6, []) := rfl
set_option maxRecDepth 100000 in
theorem i164_82 : INS 164 82 = some (10, 3, 127, 1, .null, []) := rfl
set_option maxRecDepth 100000 in
theorem i164_85 : INS 164 85 = some (0, 1, 0, 2, .null, []) := rfl
set_option maxRecDepth 100000 in
theorem i164_86 : INS 164 86 = some (16, 3, 11, 21, .null, []) := rfl
set_option maxRecDepth 100000 in
theorem i164_89 : INS 164 89 = some (0, 1, 0, 2, .null, []) := rfl
set_option maxRecDepth 100000 in
theorem i164_90 : INS 164 90 = some (16, 3, 11, 5, .null, []) := rfl
set_option maxRecDepth 100000 in
theorem i164_93 : INS 164 93 = some (2, 1, 0, 0, .int 2, []) := rfl
set_option maxRecDepth 100000 in
theorem i164_94 : INS 164 94 = some (0, 1, 0, 2, .null, []) := rfl
set_option maxRecDepth 100000 in
theorem i164_95 : INS 164 95 = some (16, 3, 11, 10, .null, []) := rfl
set_option maxRecDepth 100000 in
theorem i164_98 : INS 164 98 = some (0, 1, 2, 0, .null, []) := rfl
set_option maxRecDepth 100000 in
theorem i164_99 : INS 164 99 = some (18, 1, 20, 0, .null, []) := rfl
set_option maxRecDepth 100000 in
theorem i164_100 : INS 164 100 = some (3, 1, 2, 0, .null, []) := rfl
set_option maxRecDepth 100000 in
theorem i164_101 : INS 164 101 = some (18, 1, 20, 0, .null, []) := rfl
set_option maxRecDepth 100000 in
theorem i164_102 : INS 164 102 = some (0, 1, 3, 0, .null, []) := rfl
set_option maxRecDepth 100000 in
theorem i164_103 : INS 164 103 = some (10, 3, 113, 1, .null, []) := rfl
set_option maxRecDepth 100000 in
theorem i164_106 : INS 164 106 = some (2, 1, 0, 0, .int 2, []) := rfl
set_option maxRecDepth 100000 in
theorem i164_107 : INS 164 107 = some (0, 2, 4, 0, .null, []) := rfl
set_option maxRecDepth 100000 in
theorem i164_109 : INS 164 109 = some (3, 1, 2, 0, .null, []) := rfl
set_option maxRecDepth 100000 in
theorem i164_110 : INS 164 110 = some (12, 3, 119, 0, .null, []) := rfl
set_option maxRecDepth 100000 in
theorem i164_113 : INS 164 113 = some (2, 1, 0, 0, .int 2, []) := rfl
set_option maxRecDepth 100000 in
theorem i164_114 : INS 164 114 = some (0, 2, 4, 0, .null, []) := rfl
set_option maxRecDepth 100000 in
theorem i164_116 : INS 164 116 = some (3, 1, 2, 0, .null, []) := rfl
set_option maxRecDepth 100000 in
theorem i164_117 : INS 164 117 = some (2, 1, 0, 0, .int 1, []) := rfl
set_option maxRecDepth 100000 in
theorem i164_118 : INS 164 118 = some (3, 1, 0, 0, .null, []) := rfl
set_option maxRecDepth 100000 in
theorem i164_119 : INS 164 119 = some (8, 1, 2, 0, .null, []) := rfl
set_option maxRecDepth 100000 in
theorem i164_120 : INS 164 120 = some (18, 1, 20, 0, .null, []) := rfl
set_option maxRecDepth 100000 in
theorem i164_121 : INS 164 121 = some (2, 1, 0, 0, .int 1, []) := rfl
set_option maxRecDepth 100000 in
theorem i164_122 : INS 164 122 = some (3, 1, 0, 0, .null, []) := rfl
set_option maxRecDepth 100000 in
theorem i164_123 : INS 164 123 = some (19, 1, 20, 0, .null, []) := rfl
set_option maxRecDepth 100000 in
theorem i164_124 : INS 164 124 = some (12, 3, 135, 0, .null, []) := rfl
set_option maxRecDepth 100000 in
theorem i164_127 : INS 164 127 = some (0, 1, 0, 2, .null, []) := rfl
set_option maxRecDepth 100000 in
theorem i164_128 : INS 164 128 = some (16, 3, 11, 16, .null, []) := rfl
set_option maxRecDepth 100000 in
theorem i164_131 : INS 164 131 = some (0, 2, 4, 0, .null, []) := rfl
set_option maxRecDepth 100000 in
theorem i164_133 : INS 164 133 = some (0, 1, 3, 0, .null, []) := rfl
set_option maxRecDepth 100000 in
theorem i164_134 : INS 164 134 = some (19, 1, 20, 0, .null, []) := rfl
set_option maxRecDepth 100000 in
theorem i164_135 : INS 164 135 = some (27, 1, 3, 0, .null, []) := rfl
set_option maxRecDepth 100000 in
theorem i173_0 : INS 173 0 = some (0, 1, 1, 0, .null, []) := rfl
set_option maxRecDepth 100000 in
theorem i173_1 : INS 173 1 = some (2, 1, 0, 0, .int 1, []) := rfl
set_option maxRecDepth 100000 in
theorem i173_2 : INS 173 2 = some (2, 3, 0, 0, .int 400, []) := rfl
set_option maxRecDepth 100000 in
theorem i173_5 : INS 173 5 = some (24, 3, 123, 2, .null, []) := rfl
set_option maxRecDepth 100000 in
theorem i173_8 : INS 173 8 = some (9, 3, 18, 1, .null, []) := rfl
set_option maxRecDepth 100000 in
theorem i173_18 : INS 173 18 = some (0, 1, 0, 2, .null, []) := rfl
set_option maxRecDepth 100000 in
theorem i173_19 : INS 173 19 = some (2, 1, 0, 0, .int 0, []) := rfl
set_option maxRecDepth 100000 in
theorem i173_20 : INS 173 20 = some (17, 3, 11, 40, .null, []) := rfl
set_option maxRecDepth 100000 in
theorem i173_23 : INS 173 23 = some (0, 1, 0, 2, .null, []) := rfl
set_option maxRecDepth 100000 in
theorem i173_24 : INS 173 24 = some (2, 1, 0, 0, .int 4, []) := rfl
set_option maxRecDepth 100000 in
theorem i173_25 : INS 173 25 = some (0, 1, 1, 0, .null, []) := rfl
set_option maxRecDepth 100000 in
theorem i173_26 : INS 173 26 = some (3, 1, 2, 0, .null, []) := rfl
set_option maxRecDepth 100000 in
theorem i173_27 : INS 173 27 = some (24, 3, 169, 0, .null, []) := rfl
set_option maxRecDepth 100000 in
theorem i174_0 : INS 174 0 = some (0, 1, 0, 2, .null, []) := rfl
set_option maxRecDepth 100000 in
theorem i174_1 : INS 174 1 = some (16, 3, 11, 40, .null, []) := rfl
set_option maxRecDepth 100000 in
theorem i174_4 : INS 174 4 = some (9, 3, 25, 0, .null, []) := rfl
set_option maxRecDepth 100000 in
theorem i174_7 : INS 174 7 = some (0, 1, 1, 0, .null, []) := rfl
set_option maxRecDepth 100000 in
theorem i174_8 : INS 174 8 = some (2, 1, 0, 0, .int 0, []) := rfl
set_option maxRecDepth 100000 in
theorem i174_9 : INS 174 9 = some (2, 1, 0, 0, .int 4, []) := rfl
set_option maxRecDepth 100000 in
theorem i174_10 : INS 174 10 = some (24, 3, 123, 2, .null, []) := rfl
set_option maxRecDepth 100000 in
theorem i174_13 : INS 174 13 = some (9, 3, 25, 0, .null, []) := rfl
set_option maxRecDepth 100000 in
theorem i174_16 : INS 174 16 = some (0, 1, 0, 2, .null, []) := rfl
set_option maxRecDepth 100000 in
theorem i174_17 : INS 174 17 = some (16, 3, 11, 41, .null, []) := rfl
set_option maxRecDepth 100000 in
theorem i174_20 : INS 174 20 = some (0, 1, 1, 0, .null, []) := rfl
set_option maxRecDepth 100000 in
theorem i174_21 : INS 174 21 = some (18, 1, 20, 0, .null, []) := rfl
set_option maxRecDepth 100000 in
theorem i174_22 : INS 174 22 = some (12, 3, 26, 0, .null, []) := rfl
set_option maxRecDepth 100000 in
theorem i174_25 : INS 174 25 = some (2, 1, 0, 0, .int (-1), []) := rfl
set_option maxRecDepth 100000 in
theorem i174_26 : INS 174 26 = some (27, 1, 0, 0, .null, []) := rfl
set_option maxRecDepth 100000 in
theorem i175_0 : INS 175 0 = some (0, 1, 0, 2, .null, []) := rfl
set_option maxRecDepth 100000 in
theorem i175_1 : INS 175 1 = some (16, 3, 11, 40, .null, []) := rfl
set_option maxRecDepth 100000 in
theorem i175_4 : INS 175 4 = some (9, 3, 45, 0, .null, []) := rfl
set_option maxRecDepth 100000 in
theorem i175_7 : INS 175 7 = some (0, 1, 1, 0, .null, []) := rfl
set_option maxRecDepth 100000 in
theorem i175_8 : INS 175 8 = some (24, 3, 125, 2, .null, []) := rfl
set_option maxRecDepth 100000 in
theorem i175_11 : INS 175 11 = some (9, 3, 45, 0, .null, []) := rfl
set_option maxRecDepth 100000 in
theorem i175_14 : INS 175 14 = some (0, 1, 0, 2, .null, []) := rfl
set_option maxRecDepth 100000 in
theorem i175_15 : INS 175 15 = some (16, 3, 11, 43, .null, []) := rfl
set_option maxRecDepth 100000 in
theorem i175_18 : INS 175 18 = some (0, 1, 1, 0, .null, []) := rfl
set_option maxRecDepth 100000 in
theorem i175_19 : INS 175 19 = some (18, 1, 22, 0, .null, []) := rfl
set_option maxRecDepth 100000 in
theorem i175_20 : INS 175 20 = some (9, 3, 45, 0, .null, []) := rfl
set_option maxRecDepth 100000 in
theorem i175_23 : INS 175 23 = some (0, 1, 2, 0, .null, []) := rfl
set_option maxRecDepth 100000 in
theorem i175_24 : INS 175 24 = some (2, 1, 0, 0, .int 0, []) := rfl
set_option maxRecDepth 100000 in
theorem i175_25 : INS 175 25 = some (2, 1, 0, 0, .int 4, []) := rfl
set_option maxRecDepth 100000 in
theorem i175_26 : INS 175 26 = some (24, 3, 123, 2, .null, []) := rfl
set_option maxRecDepth 100000 in
theorem i175_29 : INS 175 29 = some (9, 3, 45, 0, .null, []) := rfl
set_option maxRecDepth 100000 in
theorem i175_32 : INS 175 32 = some (0, 1, 0, 2, .null, []) := rfl
set_option maxRecDepth 100000 in
theorem i175_33 : INS 175 33 = some (16, 3, 11, 42, .null, []) := rfl
set_option maxRecDepth 100000 in
theorem i175_36 : INS 175 36 = some (2, 1, 0, 0, .int 5, []) := rfl
set_option maxRecDepth 100000 in
theorem i175_37 : INS 175 37 = some (0, 1, 1, 0, .null, []) := rfl
set_option maxRecDepth 100000 in
theorem i175_38 : INS 175 38 = some (3, 1, 2, 0, .null, []) := rfl
set_option maxRecDepth 100000 in
theorem i175_39 : INS 175 39 = some (0, 1, 2, 0, .null, []) := rfl
set_option maxRecDepth 100000 in
theorem i175_40 : INS 175 40 = some (3, 1, 0, 0, .null, []) := rfl
set_option maxRecDepth 100000 in
theorem i175_41 : INS 175 41 = some (18, 1, 20, 0, .null, []) := rfl
set_option maxRecDepth 100000 in
theorem i175_42 : INS 175 42 = some (12, 3, 46, 0, .null, []) := rfl
set_option maxRecDepth 100000 in
theorem i175_45 : INS 175 45 = some (2, 1, 0, 0, .int (-1), []) := rfl
set_option maxRecDepth 100000 in
theorem i175_46 : INS 175 46 = some (27, 1, 0, 0, .null, []) := rfl
set_option maxRecDepth 100000 in
theorem i176_0 : INS 176 0 = some (0, 1, 1, 0, .null, []) := rfl
set_option maxRecDepth 100000 in
theorem i176_1 : INS 176 1 = some (24, 3, 125, 2, .null, []) := rfl
set_option maxRecDepth 100000 in
theorem i176_4 : INS 176 4 = some (9, 3, 17, 0, .null, []) := rfl
set_option maxRecDepth 100000 in
theorem i176_7 : INS 176 7 = some (0, 1, 2, 0, .null, []) := rfl
set_option maxRecDepth 100000 in
theorem i176_8 : INS 176 8 = some (2, 1, 0, 0, .int 0, []) := rfl
set_option maxRecDepth 100000 in
theorem i176_9 : INS 176 9 = some (2, 2, 0, 0, .int 14, []) := rfl
set_option maxRecDepth 100000 in
theorem i176_11 : INS 176 11 = some (24, 3, 123, 2, .null, []) := rfl
set_option maxRecDepth 100000 in
theorem i176_14 : INS 176 14 = some (9, 3, 19, 1, .null, []) := rfl
set_option maxRecDepth 100000 in
theorem i176_17 : INS 176 17 = some (2, 1, 0, 0, .int (-1), []) := rfl
set_option maxRecDepth 100000 in
theorem i176_18 : INS 176 18 = some (27, 1, 0, 0, .null, []) := rfl
set_option maxRecDepth 100000 in
theorem i176_19 : INS 176 19 = some (0, 1, 0, 2, .null, []) := rfl
set_option maxRecDepth 100000 in
theorem i176_20 : INS 176 20 = some (16, 3, 11, 8, .null, []) := rfl
set_option maxRecDepth 100000 in
theorem i176_23 : INS 176 23 = some (0, 1, 1, 0, .null, []) := rfl
set_option maxRecDepth 100000 in
theorem i176_24 : INS 176 24 = some (18, 1, 20, 0, .null, []) := rfl
set_option maxRecDepth 100000 in
theorem i176_25 : INS 176 25 = some (9, 3, 30, 1, .null, []) := rfl
set_option maxRecDepth 100000 in
theorem i176_28 : INS 176 28 = some (2, 1, 0, 0, .int 0, []) := rfl
set_option maxRecDepth 100000 in
theorem i176_29 : INS 176 29 = some (27, 1, 0, 0, .null, []) := rfl
set_option maxRecDepth 100000 in
theorem i176_30 : INS 176 30 = some (0, 1, 2, 0, .null, []) := rfl
set_option maxRecDepth 100000 in
theorem i176_31 : INS 176 31 = some (13, 69, 212, 0, .null, [100, 107, 114, 121, 128, 135, 142, 157, 166, 177, 184, 191, 198, 205]) := rfl
set_option maxRecDepth 100000 in
theorem i176_100 : INS 176 100 = some (0, 1, 0, 2, .null, []) := rfl
set_option maxRecDepth 100000 in
theorem i176_101 : INS 176 101 = some (16, 3, 11, 8, .null, []) := rfl
set_option maxRecDepth 100000 in
theorem i176_104 : INS 176 104 = some (0, 1, 1, 0, .null, []) := rfl
set_option maxRecDepth 100000 in
theorem i176_105 : INS 176 105 = some (18, 1, 20, 0, .null, []) := rfl
set_option maxRecDepth 100000 in
theorem i176_106 : INS 176 106 = some (27, 1, 0, 0, .null, []) := rfl
set_option maxRecDepth 100000 in
theorem i176_107 : INS 176 107 = some (0, 1, 0, 2, .null, []) := rfl
set_option maxRecDepth 100000 in
theorem i176_108 : INS 176 108 = some (16, 3, 11, 9, .null, []) := rfl
set_option maxRecDepth 100000 in
theorem i176_111 : INS 176 111 = some (0, 1, 1, 0, .null, []) := rfl
set_option maxRecDepth 100000 in
theorem i176_112 : INS 176 112 = some (18, 1, 20, 0, .null, []) := rfl
set_option maxRecDepth 100000 in
theorem i176_113 : INS 176 113 = some (27, 1, 0, 0, .null, []) := rfl
set_option maxRecDepth 100000 in
theorem i176_114 : INS 176 114 = some (0, 1, 0, 2, .null, []) := rfl
set_option maxRecDepth 100000 in
theorem i176_115 : INS 176 115 = some (2, 1, 0, 0, .int 0, []) := rfl
set_option maxRecDepth 100000 in
theorem i176_116 : INS 176 116 = some (0, 1, 1, 0, .null, []) := rfl
set_option maxRecDepth 100000 in
theorem i176_117 : INS 176 117 = some (24, 3, 156, 0, .null, []) := rfl
set_option maxRecDepth 100000 in
theorem i176_120 : INS 176 120 = some (27, 1, 0, 0, .null, []) := rfl
set_option maxRecDepth 100000 in
theorem i176_121 : INS 176 121 = some (0, 1, 0, 2, .null, []) := rfl
set_option maxRecDepth 100000 in
theorem i176_122 : INS 176 122 = some (16, 3, 11, 17, .null, []) := rfl
set_option maxRecDepth 100000 in
theorem i176_125 : INS 176 125 = some (0, 1, 1, 0, .null, []) := rfl
set_option maxRecDepth 100000 in
theorem i176_126 : INS 176 126 = some (18, 1, 20, 0, .null, []) := rfl
set_option maxRecDepth 100000 in
theorem i176_127 : INS 176 127 = some (27, 1, 0, 0, .null, []) := rfl
set_option maxRecDepth 100000 in
theorem i176_128 : INS 176 128 = some (0, 1, 0, 2, .null, []) := rfl
set_option maxRecDepth 100000 in
theorem i176_129 : INS 176 129 = some (16, 3, 11, 18, .null, []) := rfl
set_option maxRecDepth 100000 in
theorem i176_132 : INS 176 132 = some (0, 1, 1, 0, .null, []) := rfl
set_option maxRecDepth 100000 in
theorem i176_133 : INS 176 133 = some (18, 1, 20, 0, .null, []) := rfl
set_option maxRecDepth 100000 in
theorem i176_134 : INS 176 134 = some (27, 1, 0, 0, .null, []) := rfl
set_option maxRecDepth 100000 in
theorem i176_135 : INS 176 135 = some (0, 1, 0, 2, .null, []) := rfl
set_option maxRecDepth 100000 in
theorem i176_136 : INS 176 136 = some (16, 3, 11, 19, .null, []) := rfl
set_option maxRecDepth 100000 in
theorem i176_139 : INS 176 139 = some (0, 1, 1, 0, .null, []) := rfl
set_option maxRecDepth 100000 in
theorem i176_140 : INS 176 140 = some (18, 1, 20, 0, .null, []) := rfl
set_option maxRecDepth 100000 in
theorem i176_141 : INS 176 141 = some (27, 1, 0, 0, .null, []) := rfl
set_option maxRecDepth 100000 in
theorem i176_142 : INS 176 142 = some (0, 1, 0, 2, .null, []) := rfl
set_option maxRecDepth 100000 in
theorem i176_143 : INS 176 143 = some (16, 3, 11, 20, .null, []) := rfl
set_option maxRecDepth 100000 in
theorem i176_146 : INS 176 146 = some (0, 1, 1, 0, .null, []) := rfl
set_option maxRecDepth 100000 in
theorem i176_147 : INS 176 147 = some (18, 1, 22, 0, .null, []) := rfl
set_option maxRecDepth 100000 in
theorem i176_148 : INS 176 148 = some (9, 3, 155, 0, .null, []) := rfl
set_option maxRecDepth 100000 in
theorem i176_151 : INS 176 151 = some (2, 1, 0, 0, .int 1, []) := rfl
set_option maxRecDepth 100000 in
theorem i176_152 : INS 176 152 = some (12, 3, 156, 0, .null, []) := rfl
set_option maxRecDepth 100000 in
theorem i176_155 : INS 176 155 = some (2, 1, 0, 0, .int 0, []) := rfl
set_option maxRecDepth 100000 in
theorem i176_156 : INS 176 156 = some (27, 1, 0, 0, .null, []) := rfl
set_option maxRecDepth 100000 in
theorem i176_157 : INS 176 157 = some (0, 1, 0, 2, .null, []) := rfl
set_option maxRecDepth 100000 in
theorem i176_158 : INS 176 158 = some (16, 3, 11, 21, .null, []) := rfl
set_option maxRecDepth 100000 in
theorem i176_161 : INS 176 161 = some (2, 1, 0, 0, .int 2, []) := rfl
set_option maxRecDepth 100000 in
theorem i176_162 : INS 176 162 = some (0, 1, 1, 0, .null, []) := rfl
set_option maxRecDepth 100000 in
theorem i176_163 : INS 176 163 = some (3, 1, 2, 0, .null, []) := rfl
set_option maxRecDepth 100000 in
theorem i176_164 : INS 176 164 = some (18, 1, 20, 0, .null, []) := rfl
set_option maxRecDepth 100000 in
theorem i176_165 : INS 176 165 = some (27, 1, 0, 0, .null, []) := rfl
set_option maxRecDepth 100000 in
theorem i176_166 : INS 176 166 = some (0, 1, 0, 2, .null, []) := rfl
set_option maxRecDepth 100000 in
theorem i176_167 : INS 176 167 = some (16, 3, 11, 21, .null, []) := rfl
set_option maxRecDepth 100000 in
theorem i176_170 : INS 176 170 = some (2, 1, 0, 0, .int 2, []) := rfl
set_option maxRecDepth 100000 in
theorem i176_171 : INS 176 171 = some (0, 1, 1, 0, .null, []) := rfl
set_option maxRecDepth 100000 in
theorem i176_172 : INS 176 172 = some (3, 1, 2, 0, .null, []) := rfl
set_option maxRecDepth 100000 in
theorem i176_173 : INS 176 173 = some (2, 1, 0, 0, .int 1, []) := rfl
set_option maxRecDepth 100000 in
theorem i176_174 : INS 176 174 = some (3, 1, 0, 0, .null, []) := rfl
set_option maxRecDepth 100000 in
theorem i176_175 : INS 176 175 = some (18, 1, 20, 0, .null, []) := rfl
set_option maxRecDepth 100000 in
theorem i176_176 : INS 176 176 = some (27, 1, 0, 0, .null, []) := rfl
set_option maxRecDepth 100000 in
theorem i176_177 : INS 176 177 = some (0, 1, 0, 2, .null, []) := rfl
set_option maxRecDepth 100000 in
theorem i176_178 : INS 176 178 = some (16, 3, 11, 22, .null, []) := rfl
set_option maxRecDepth 100000 in
theorem i176_181 : INS 176 181 = some (0, 1, 1, 0, .null, []) := rfl
set_option maxRecDepth 100000 in
theorem i176_182 : INS 176 182 = some (18, 1, 20, 0, .null, []) := rfl
set_option maxRecDepth 100000 in
theorem i176_183 : INS 176 183 = some (27, 1, 0, 0, .null, []) := rfl
set_option maxRecDepth 100000 in
theorem i176_184 : INS 176 184 = some (0, 1, 0, 2, .null, []) := rfl
set_option maxRecDepth 100000 in
theorem i176_185 : INS 176 185 = some (16, 3, 11, 23, .null, []) := rfl
set_option maxRecDepth 100000 in
theorem i176_188 : INS 176 188 = some (0, 1, 1, 0, .null, []) := rfl
set_option maxRecDepth 100000 in
theorem i176_189 : INS 176 189 = some (18, 1, 20, 0, .null, []) := rfl
set_option maxRecDepth 100000 in
theorem i176_190 : INS 176 190 = some (27, 1, 0, 0, .null, []) := rfl
set_option maxRecDepth 100000 in
theorem i176_191 : INS 176 191 = some (0, 1, 0, 2, .null, []) := rfl
set_option maxRecDepth 100000 in
theorem i176_192 : INS 176 192 = some (16, 3, 11, 10, .null, []) := rfl
set_option maxRecDepth 100000 in
theorem i176_195 : INS 176 195 = some (0, 1, 1, 0, .null, []) := rfl
set_option maxRecDepth 100000 in
theorem i176_196 : INS 176 196 = some (18, 1, 20, 0, .null, []) := rfl
set_option maxRecDepth 100000 in
theorem i176_197 : INS 176 197 = some (27, 1, 0, 0, .null, []) := rfl
set_option maxRecDepth 100000 in
theorem i176_198 : INS 176 198 = some (0, 1, 0, 2, .null, []) := rfl
set_option maxRecDepth 100000 in
theorem i176_199 : INS 176 199 = some (16, 3, 11, 11, .null, []) := rfl
set_option maxRecDepth 100000 in
theorem i176_202 : INS 176 202 = some (0, 1, 1, 0, .null, []) := rfl
set_option maxRecDepth 100000 in
theorem i176_203 : INS 176 203 = some (18, 1, 20, 0, .null, []) := rfl
set_option maxRecDepth 100000 in
theorem i176_204 : INS 176 204 = some (27, 1, 0, 0, .null, []) := rfl
set_option maxRecDepth 100000 in
theorem i176_205 : INS 176 205 = some (0, 1, 0, 2, .null, []) := rfl
set_option maxRecDepth 100000 in
theorem i176_206 : INS 176 206 = some (16, 3, 11, 12, .null, []) := rfl
set_option maxRecDepth 100000 in
theorem i176_209 : INS 176 209 = some (0, 1, 1, 0, .null, []) := rfl
set_option maxRecDepth 100000 in
theorem i176_210 : INS 176 210 = some (18, 1, 20, 0, .null, []) := rfl
set_option maxRecDepth 100000 in
theorem i176_211 : INS 176 211 = some (27, 1, 0, 0, .null, []) := rfl
set_option maxRecDepth 100000 in
theorem i176_212 : INS 176 212 = some (0, 1, 0, 2, .null, []) := rfl
set_option maxRecDepth 100000 in
theorem i176_213 : INS 176 213 = some (16, 3, 11, 13, .null, []) := rfl
set_option maxRecDepth 100000 in
theorem i176_216 : INS 176 216 = some (0, 1, 1, 0, .null, []) := rfl
set_option maxRecDepth 100000 in
theorem i176_217 : INS 176 217 = some (18, 1, 20, 0, .null, []) := rfl
set_option maxRecDepth 100000 in
theorem i176_218 : INS 176 218 = some (27, 1, 0, 0, .null, []) := rfl
set_option maxRecDepth 100000 in
theorem i177_0 : INS 177 0 = some (0, 1, 1, 0, .null, []) := rfl
set_option maxRecDepth 100000 in
theorem i177_1 : INS 177 1 = some (24, 3, 126, 2, .null, []) := rfl
set_option maxRecDepth 100000 in
theorem i177_4 : INS 177 4 = some (9, 3, 16, 0, .null, []) := rfl
set_option maxRecDepth 100000 in
theorem i177_7 : INS 177 7 = some (0, 1, 0, 2, .null, []) := rfl
set_option maxRecDepth 100000 in
theorem i177_8 : INS 177 8 = some (16, 3, 11, 15, .null, []) := rfl
set_option maxRecDepth 100000 in
theorem i177_11 : INS 177 11 = some (0, 1, 1, 0, .null, []) := rfl
set_option maxRecDepth 100000 in
theorem i177_12 : INS 177 12 = some (18, 1, 20, 0, .null, []) := rfl
set_option maxRecDepth 100000 in
theorem i177_13 : INS 177 13 = some (12, 3, 17, 0, .null, []) := rfl
set_option maxRecDepth 100000 in
theorem i177_16 : INS 177 16 = some (2, 1, 0, 0, .int 0, []) := rfl
set_option maxRecDepth 100000 in
theorem i177_17 : INS 177 17 = some (27, 1, 0, 0, .null, []) := rfl
set_option maxRecDepth 100000 in
theorem i179_0 : INS 179 0 = some (0, 1, 0, 2, .null, []) := rfl
set_option maxRecDepth 100000 in
theorem i179_1 : INS 179 1 = some (16, 3, 11, 46, .null, []) := rfl
set_option maxRecDepth 100000 in
theorem i179_4 : INS 179 4 = some (0, 1, 1, 0, .null, []) := rfl
set_option maxRecDepth 100000 in
theorem i179_5 : INS 179 5 = some (18, 1, 21, 0, .null, []) := rfl
set_option maxRecDepth 100000 in
theorem i179_6 : INS 179 6 = some (0, 2, 4, 1, .null, []) := rfl
set_option maxRecDepth 100000 in
theorem i179_8 : INS 179 8 = some (4, 1, 2, 0, .null, []) := rfl
set_option maxRecDepth 100000 in
theorem i179_9 : INS 179 9 = some (0, 1, 2, 1, .null, []) := rfl
set_option maxRecDepth 100000 in
theorem i179_10 : INS 179 10 = some (0, 1, 0, 2, .null, []) := rfl
set_option maxRecDepth 100000 in
theorem i179_11 : INS 179 11 = some (16, 3, 11, 47, .null, []) := rfl
set_option maxRecDepth 100000 in
theorem i179_14 : INS 179 14 = some (0, 1, 1, 0, .null, []) := rfl
set_option maxRecDepth 100000 in
theorem i179_15 : INS 179 15 = some (18, 1, 21, 0, .null, []) := rfl
set_option maxRecDepth 100000 in
theorem i179_16 : INS 179 16 = some (4, 1, 2, 0, .null, []) := rfl
set_option maxRecDepth 100000 in
theorem i179_17 : INS 179 17 = some (4, 1, 0, 0, .null, []) := rfl
set_option maxRecDepth 100000 in
theorem i179_18 : INS 179 18 = some (1, 2, 6, 1, .null, []) := rfl
set_option maxRecDepth 100000 in
theorem i179_20 : INS 179 20 = some (0, 1, 0, 2, .null, []) := rfl
set_option maxRecDepth 100000 in
theorem i179_21 : INS 179 21 = some (16, 3, 11, 47, .null, []) := rfl
set_option maxRecDepth 100000 in
theorem i179_24 : INS 179 24 = some (0, 1, 1, 0, .null, []) := rfl
set_option maxRecDepth 100000 in
theorem i179_25 : INS 179 25 = some (18, 1, 21, 0, .null, []) := rfl
set_option maxRecDepth 100000 in
theorem i179_26 : INS 179 26 = some (0, 2, 4, 1, .null, []) := rfl
set_option maxRecDepth 100000 in
theorem i179_28 : INS 179 28 = some (4, 1, 2, 0, .null, []) := rfl
set_option maxRecDepth 100000 in
theorem i179_29 : INS 179 29 = some (1, 2, 8, 1, .null, []) := rfl
set_option maxRecDepth 100000 in
theorem i179_31 : INS 179 31 = some (0, 2, 6, 1, .null, []) := rfl
set_option maxRecDepth 100000 in
theorem i179_33 : INS 179 33 = some (0, 2, 8, 1, .null, []) := rfl
set_option maxRecDepth 100000 in
theorem i179_35 : INS 179 35 = some (24, 3, 178, 2, .null, []) := rfl
set_option maxRecDepth 100000 in
theorem i183_0 : INS 183 0 = some (0, 1, 1, 0, .null, []) := rfl
set_option maxRecDepth 100000 in
theorem i183_1 : INS 183 1 = some (2, 1, 0, 0, .int 0, []) := rfl
set_option maxRecDepth 100000 in
theorem i183_2 : INS 183 2 = some (0, 1, 0, 2, .null, []) := rfl
set_option maxRecDepth 100000 in
theorem i183_3 : INS 183 3 = some (16, 3, 11, 1, .null, []) := rfl
set_option maxRecDepth 100000 in
theorem i183_6 : INS 183 6 = some (2, 1, 0, 0, .int 1, []) := rfl
set_option maxRecDepth 100000 in
theorem i183_7 : INS 183 7 = some (3, 1, 1, 0, .null, []) := rfl
set_option maxRecDepth 100000 in
theorem i183_8 : INS 183 8 = some (24, 3, 123, 2, .null, []) := rfl
set_option maxRecDepth 100000 in
theorem i183_11 : INS 183 11 = some (9, 3, 23, 0, .null, []) := rfl
set_option maxRecDepth 100000 in
theorem i183_14 : INS 183 14 = some (0, 1, 0, 2, .null, []) := rfl
set_option maxRecDepth 100000 in
theorem i183_15 : INS 183 15 = some (16, 3, 11, 48, .null, []) := rfl
set_option maxRecDepth 100000 in
theorem i183_18 : INS 183 18 = some (0, 1, 1, 0, .null, []) := rfl
set_option maxRecDepth 100000 in
theorem i183_19 : INS 183 19 = some (18, 1, 20, 0, .null, []) := rfl
set_option maxRecDepth 100000 in
theorem i183_20 : INS 183 20 = some (12, 3, 24, 0, .null, []) := rfl
set_option maxRecDepth 100000 in
theorem i183_23 : INS 183 23 = some (2, 1, 0, 0, .int 0, []) := rfl
set_option maxRecDepth 100000 in
theorem i183_24 : INS 183 24 = some (27, 1, 0, 0, .null, []) := rfl
set_option maxRecDepth 100000 in
theorem i184_0 : INS 184 0 = some (0, 1, 1, 0, .null, []) := rfl
set_option maxRecDepth 100000 in
theorem i184_1 : INS 184 1 = some (24, 3, 126, 2, .null, []) := rfl
set_option maxRecDepth 100000 in
theorem i184_4 : INS 184 4 = some (9, 3, 19, 1, .null, []) := rfl
set_option maxRecDepth 100000 in
theorem i184_7 : INS 184 7 = some (0, 1, 2, 0, .null, []) := rfl
set_option maxRecDepth 100000 in
theorem i184_8 : INS 184 8 = some (9, 3, 15, 0, .null, []) := rfl
set_option maxRecDepth 100000 in
theorem i184_11 : INS 184 11 = some (2, 1, 0, 0, .long 1, []) := rfl
set_option maxRecDepth 100000 in
theorem i184_12 : INS 184 12 = some (12, 3, 38, 0, .null, []) := rfl
set_option maxRecDepth 100000 in
theorem i184_15 : INS 184 15 = some (2, 1, 0, 0, .long 0, []) := rfl
set_option maxRecDepth 100000 in
theorem i184_16 : INS 184 16 = some (12, 3, 38, 0, .null, []) := rfl
set_option maxRecDepth 100000 in
theorem i184_19 : INS 184 19 = some (0, 1, 2, 0, .null, []) := rfl
set_option maxRecDepth 100000 in
theorem i184_20 : INS 184 20 = some (9, 3, 32, 0, .null, []) := rfl
set_option maxRecDepth 100000 in
theorem i184_23 : INS 184 23 = some (0, 1, 0, 2, .null, []) := rfl
set_option maxRecDepth 100000 in
theorem i184_24 : INS 184 24 = some (16, 3, 11, 45, .null, []) := rfl
set_option maxRecDepth 100000 in
theorem i184_27 : INS 184 27 = some (0, 1, 1, 0, .null, []) := rfl
set_option maxRecDepth 100000 in
theorem i184_28 : INS 184 28 = some (18, 1, 21, 0, .null, []) := rfl
set_option maxRecDepth 100000 in
theorem i184_29 : INS 184 29 = some (12, 3, 38, 0, .null, []) := rfl
set_option maxRecDepth 100000 in
theorem i184_32 : INS 184 32 = some (0, 1, 0, 2, .null, []) := rfl
set_option maxRecDepth 100000 in
theorem i184_33 : INS 184 33 = some (16, 3, 11, 44, .null, []) := rfl
set_option maxRecDepth 100000 in
theorem i184_36 : INS 184 36 = some (0, 1, 1, 0, .null, []) := rfl
set_option maxRecDepth 100000 in
theorem i184_37 : INS 184 37 = some (18, 1, 21, 0, .null, []) := rfl
set_option maxRecDepth 100000 in
theorem i184_38 : INS 184 38 = some (27, 1, 1, 0, .null, []) := rfl
set_option maxRecDepth 100000 in
theorem i187_0 : INS 187 0 = some (0, 1, 1, 0, .null, []) := rfl
set_option maxRecDepth 100000 in
theorem i187_1 : INS 187 1 = some (24, 3, 125, 2, .null, []) := rfl
set_option maxRecDepth 100000 in
theorem i187_4 : INS 187 4 = some (9, 3, 41, 0, .null, []) := rfl
set_option maxRecDepth 100000 in
theorem i187_7 : INS 187 7 = some (0, 1, 0, 2, .null, []) := rfl
set_option maxRecDepth 100000 in
theorem i187_8 : INS 187 8 = some (16, 3, 11, 8, .null, []) := rfl
set_option maxRecDepth 100000 in
theorem i187_11 : INS 187 11 = some (0, 1, 1, 0, .null, []) := rfl
set_option maxRecDepth 100000 in
theorem i187_12 : INS 187 12 = some (18, 1, 20, 0, .null, []) := rfl
set_option maxRecDepth 100000 in
theorem i187_13 : INS 187 13 = some (9, 3, 41, 0, .null, []) := rfl
set_option maxRecDepth 100000 in
theorem i187_16 : INS 187 16 = some (0, 1, 0, 2, .null, []) := rfl
set_option maxRecDepth 100000 in
theorem i187_17 : INS 187 17 = some (16, 3, 11, 8, .null, []) := rfl
set_option maxRecDepth 100000 in
theorem i187_20 : INS 187 20 = some (0, 1, 1, 0, .null, []) := rfl
set_option maxRecDepth 100000 in
theorem i187_21 : INS 187 21 = some (18, 1, 20, 0, .null, []) := rfl
set_option maxRecDepth 100000 in
theorem i187_22 : INS 187 22 = some (2, 1, 0, 0, .int 2, []) := rfl
set_option maxRecDepth 100000 in
theorem i187_23 : INS 187 23 = some (10, 3, 41, 0, .null, []) := rfl
set_option maxRecDepth 100000 in
theorem i187_26 : INS 187 26 = some (0, 1, 0, 2, .null, []) := rfl
set_option maxRecDepth 100000 in
theorem i187_27 : INS 187 27 = some (16, 3, 11, 8, .null, []) := rfl
set_option maxRecDepth 100000 in
theorem i187_30 : INS 187 30 = some (0, 1, 1, 0, .null, []) := rfl
set_option maxRecDepth 100000 in
theorem i187_31 : INS 187 31 = some (18, 1, 20, 0, .null, []) := rfl
set_option maxRecDepth 100000 in
theorem i187_32 : INS 187 32 = some (2, 2, 0, 0, .int 7, []) := rfl
set_option maxRecDepth 100000 in
theorem i187_34 : INS 187 34 = some (10, 3, 41, 0, .null, []) := rfl
set_option maxRecDepth 100000 in
theorem i187_37 : INS 187 37 = some (2, 1, 0, 0, .int 1, []) := rfl
set_option maxRecDepth 100000 in
theorem i187_38 : INS 187 38 = some (12, 3, 42, 0, .null, []) := rfl
set_option maxRecDepth 100000 in
theorem i187_41 : INS 187 41 = some (2, 1, 0, 0, .int 0, []) := rfl
set_option maxRecDepth 100000 in
theorem i187_42 : INS 187 42 = some (27, 1, 0, 0, .null, []) := rfl
set_option maxRecDepth 100000 in
theorem i188_0 : INS 188 0 = some (0, 1, 1, 0, .null, []) := rfl
set_option maxRecDepth 100000 in
theorem i188_1 : INS 188 1 = some (24, 3, 125, 2, .null, []) := rfl
set_option maxRecDepth 100000 in
theorem i188_4 : INS 188 4 = some (9, 3, 40, 0, .null, []) := rfl
set_option maxRecDepth 100000 in
theorem i188_7 : INS 188 7 = some (0, 1, 0, 2, .null, []) := rfl
set_option maxRecDepth 100000 in
theorem i188_8 : INS 188 8 = some (16, 3, 11, 8, .null, []) := rfl
set_option maxRecDepth 100000 in
theorem i188_11 : INS 188 11 = some (0, 1, 1, 0, .null, []) := rfl
set_option maxRecDepth 100000 in
theorem i188_12 : INS 188 12 = some (18, 1, 20, 0, .null, []) := rfl
set_option maxRecDepth 100000 in
theorem i188_13 : INS 188 13 = some (9, 3, 40, 0, .null, []) := rfl
set_option maxRecDepth 100000 in
theorem i188_16 : INS 188 16 = some (0, 1, 0, 2, .null, []) := rfl
set_option maxRecDepth 100000 in
theorem i188_17 : INS 188 17 = some (16, 3, 11, 8, .null, []) := rfl
set_option maxRecDepth 100000 in
theorem i188_20 : INS 188 20 = some (0, 1, 1, 0, .null, []) := rfl
set_option maxRecDepth 100000 in
theorem i188_21 : INS 188 21 = some (18, 1, 20, 0, .null, []) := rfl
set_option maxRecDepth 100000 in
theorem i188_22 : INS 188 22 = some (2, 1, 0, 0, .int 3, []) := rfl
set_option maxRecDepth 100000 in
theorem i188_23 : INS 188 23 = some (10, 3, 40, 0, .null, []) := rfl
set_option maxRecDepth 100000 in
theorem i188_26 : INS 188 26 = some (0, 1, 0, 2, .null, []) := rfl
set_option maxRecDepth 100000 in
theorem i188_27 : INS 188 27 = some (16, 3, 11, 8, .null, []) := rfl
set_option maxRecDepth 100000 in
theorem i188_30 : INS 188 30 = some (0, 1, 1, 0, .null, []) := rfl
set_option maxRecDepth 100000 in
theorem i188_31 : INS 188 31 = some (18, 1, 20, 0, .null, []) := rfl
set_option maxRecDepth 100000 in
theorem i188_32 : INS 188 32 = some (2, 1, 0, 0, .int 5, []) := rfl
set_option maxRecDepth 100000 in
theorem i188_33 : INS 188 33 = some (10, 3, 40, 0, .null, []) := rfl
set_option maxRecDepth 100000 in
theorem i188_36 : INS 188 36 = some (2, 1, 0, 0, .int 1, []) := rfl
set_option maxRecDepth 100000 in
theorem i188_37 : INS 188 37 = some (12, 3, 41, 0, .null, []) := rfl
set_option maxRecDepth 100000 in
theorem i188_40 : INS 188 40 = some (2, 1, 0, 0, .int 0, []) := rfl
set_option maxRecDepth 100000 in
theorem i188_41 : INS 188 41 = some (27, 1, 0, 0, .null, []) := rfl
set_option maxRecDepth 100000 in
theorem i190_0 : INS 190 0 = some (0, 1, 0, 2, .null, []) := rfl
set_option maxRecDepth 100000 in
theorem i190_1 : INS 190 1 = some (0, 1, 1, 0, .null, []) := rfl
set_option maxRecDepth 100000 in
theorem i190_2 : INS 190 2 = some (0, 1, 2, 0, .null, []) := rfl
set_option maxRecDepth 100000 in
theorem i190_3 : INS 190 3 = some (24, 3, 189, 0, .null, []) := rfl
theorem sh397 : SH 397 = (11, 0) := by decide +kernel
theorem sh398 : SH 398 = (20, 8) := by decide +kernel
theorem sh399 : SH 399 = (20, 8) := by decide +kernel
theorem sh400 : SH 400 = (20, 8) := by decide +kernel
theorem sh401 : SH 401 = (20, 8) := by decide +kernel
theorem sh402 : SH 402 = (20, 16) := by decide +kernel
theorem sh403 : SH 403 = (20, 16) := by decide +kernel
theorem sh405 : SH 405 = (20, 144) := by decide +kernel
theorem sh406 : SH 406 = (20, 144) := by decide +kernel
theorem sh407 : SH 407 = (20, 144) := by decide +kernel
theorem sh408 : SH 408 = (20, 144) := by decide +kernel
theorem sh409 : SH 409 = (20, 144) := by decide +kernel
theorem sh410 : SH 410 = (20, 144) := by decide +kernel
theorem sh411 : SH 411 = (20, 21) := by decide +kernel
theorem sh412 : SH 412 = (20, 432) := by decide +kernel
theorem sh413 : SH 413 = (20, 432) := by decide +kernel
theorem sh414 : SH 414 = (20, 432) := by decide +kernel
theorem sh415 : SH 415 = (20, 432) := by decide +kernel
theorem sh416 : SH 416 = (22, 432) := by decide +kernel
theorem sh417 : SH 417 = (20, 864) := by decide +kernel
theorem sh418 : SH 418 = (20, 432) := by decide +kernel
theorem sh419 : SH 419 = (20, 432) := by decide +kernel
theorem sh420 : SH 420 = (20, 8) := by decide +kernel
theorem sh421 : SH 421 = (20, 8) := by decide +kernel
theorem sh422 : SH 422 = (21, 800) := by decide +kernel
theorem sh427 : SH 427 = (20, 144) := by decide +kernel
theorem sh428 : SH 428 = (20, 144) := by decide +kernel
theorem sh429 : SH 429 = (20, 144) := by decide +kernel
theorem sh431 : SH 431 = (20, 144) := by decide +kernel
theorem sh432 : SH 432 = (20, 144) := by decide +kernel
theorem sh433 : SH 433 = (20, 144) := by decide +kernel
theorem sh434 : SH 434 = (20, 5) := by decide +kernel
theorem sh435 : SH 435 = (20, 720) := by decide +kernel
theorem sh436 : SH 436 = (22, 144) := by decide +kernel
theorem sh437 : SH 437 = (21, 21) := by decide +kernel
theorem sh438 : SH 438 = (21, 21) := by decide +kernel
theorem sh439 : SH 439 = (21, 21) := by decide +kernel
theorem sh440 : SH 440 = (21, 21) := by decide +kernel
theorem sh441 : SH 441 = (20, 8) := by decide +kernel
theorem lk397_0 : x_lkf 397 0 = some 398 := by decide +kernel
theorem lk397_2 : x_lkf 397 2 = some 399 := by decide +kernel
theorem lk397_3 : x_lkf 397 3 = some 400 := by decide +kernel
theorem lk397_4 : x_lkf 397 4 = some 401 := by decide +kernel
theorem lk397_5 : x_lkf 397 5 = some 402 := by decide +kernel
theorem lk397_6 : x_lkf 397 6 = some 403 := by decide +kernel
theorem lk397_8 : x_lkf 397 8 = some 405 := by decide +kernel
theorem lk397_9 : x_lkf 397 9 = some 406 := by decide +kernel
theorem lk397_10 : x_lkf 397 10 = some 407 := by decide +kernel
theorem lk397_11 : x_lkf 397 11 = some 408 := by decide +kernel
theorem lk397_12 : x_lkf 397 12 = some 409 := by decide +kernel
theorem lk397_13 : x_lkf 397 13 = some 410 := by decide +kernel
theorem lk397_15 : x_lkf 397 15 = some 411 := by decide +kernel
theorem lk397_16 : x_lkf 397 16 = some 412 := by decide +kernel
theorem lk397_17 : x_lkf 397 17 = some 413 := by decide +kernel
theorem lk397_18 : x_lkf 397 18 = some 414 := by decide +kernel
theorem lk397_19 : x_lkf 397 19 = some 415 := by decide +kernel
theorem lk397_20 : x_lkf 397 20 = some 416 := by decide +kernel
theorem lk397_21 : x_lkf 397 21 = some 417 := by decide +kernel
theorem lk397_22 : x_lkf 397 22 = some 418 := by decide +kernel
theorem lk397_23 : x_lkf 397 23 = some 419 := by decide +kernel
theorem lk397_24 : x_lkf 397 24 = some 420 := by decide +kernel
theorem lk397_25 : x_lkf 397 25 = some 421 := by decide +kernel
theorem lk397_26 : x_lkf 397 26 = some 422 := by decide +kernel
theorem lk397_31 : x_lkf 397 31 = some 427 := by decide +kernel
theorem lk397_32 : x_lkf 397 32 = some 428 := by decide +kernel
theorem lk397_33 : x_lkf 397 33 = some 429 := by decide +kernel
theorem lk397_37 : x_lkf 397 37 = some 431 := by decide +kernel
theorem lk397_38 : x_lkf 397 38 = some 432 := by decide +kernel
theorem lk397_39 : x_lkf 397 39 = some 433 := by decide +kernel
theorem lk397_41 : x_lkf 397 41 = some 434 := by decide +kernel
theorem lk397_42 : x_lkf 397 42 = some 435 := by decide +kernel
theorem lk397_43 : x_lkf 397 43 = some 436 := by decide +kernel
theorem lk397_44 : x_lkf 397 44 = some 437 := by decide +kernel
theorem lk397_45 : x_lkf 397 45 = some 438 := by decide +kernel
theorem lk397_46 : x_lkf 397 46 = some 439 := by decide +kernel
theorem lk397_47 : x_lkf 397 47 = some 440 := by decide +kernel
theorem lk397_48 : x_lkf 397 48 = some 441 := by decide +kernel
