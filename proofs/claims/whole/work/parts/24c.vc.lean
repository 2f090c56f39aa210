/-! Conditions of the methods that only reckon (made by wip/whole/vcmake.py). -/
set_option maxRecDepth 100000 in
theorem i54_0 : INS 54 0 = some (0, 1, 1, 0, .null, []) := rfl
set_option maxRecDepth 100000 in
theorem i54_1 : INS 54 1 = some (2, 1, 0, 0, .int (-1), []) := rfl
set_option maxRecDepth 100000 in
theorem i54_2 : INS 54 2 = some (10, 3, 9, 1, .null, []) := rfl
set_option maxRecDepth 100000 in
theorem i54_5 : INS 54 5 = some (2, 1, 0, 0, .int 0, []) := rfl
set_option maxRecDepth 100000 in
theorem i54_6 : INS 54 6 = some (12, 3, 12, 0, .null, []) := rfl
set_option maxRecDepth 100000 in
theorem i54_9 : INS 54 9 = some (2, 1, 0, 0, .int 1, []) := rfl
set_option maxRecDepth 100000 in
theorem i54_10 : INS 54 10 = some (0, 1, 1, 0, .null, []) := rfl
set_option maxRecDepth 100000 in
theorem i54_11 : INS 54 11 = some (3, 1, 8, 0, .null, []) := rfl
set_option maxRecDepth 100000 in
theorem i54_12 : INS 54 12 = some (27, 1, 0, 0, .null, []) := rfl
set_option maxRecDepth 100000 in
theorem i55_0 : INS 55 0 = some (0, 1, 1, 0, .null, []) := rfl
set_option maxRecDepth 100000 in
theorem i55_1 : INS 55 1 = some (0, 1, 2, 0, .null, []) := rfl
set_option maxRecDepth 100000 in
theorem i55_2 : INS 55 2 = some (3, 1, 9, 0, .null, []) := rfl
set_option maxRecDepth 100000 in
theorem i55_3 : INS 55 3 = some (2, 1, 0, 0, .int 1, []) := rfl
set_option maxRecDepth 100000 in
theorem i55_4 : INS 55 4 = some (3, 1, 5, 0, .null, []) := rfl
set_option maxRecDepth 100000 in
theorem i55_5 : INS 55 5 = some (2, 1, 0, 0, .int 1, []) := rfl
set_option maxRecDepth 100000 in
theorem i55_6 : INS 55 6 = some (10, 3, 13, 1, .null, []) := rfl
set_option maxRecDepth 100000 in
theorem i55_9 : INS 55 9 = some (2, 1, 0, 0, .int 1, []) := rfl
set_option maxRecDepth 100000 in
theorem i55_10 : INS 55 10 = some (12, 3, 14, 0, .null, []) := rfl
set_option maxRecDepth 100000 in
theorem i55_13 : INS 55 13 = some (2, 1, 0, 0, .int 0, []) := rfl
set_option maxRecDepth 100000 in
theorem i55_14 : INS 55 14 = some (27, 1, 0, 0, .null, []) := rfl
set_option maxRecDepth 100000 in
theorem i66_0 : INS 66 0 = some (0, 1, 1, 0, .null, []) := rfl
set_option maxRecDepth 100000 in
theorem i66_1 : INS 66 1 = some (9, 3, 19, 0, .null, []) := rfl
set_option maxRecDepth 100000 in
theorem i66_4 : INS 66 4 = some (0, 1, 1, 0, .null, []) := rfl
set_option maxRecDepth 100000 in
theorem i66_5 : INS 66 5 = some (2, 1, 0, 0, .int 2, []) := rfl
set_option maxRecDepth 100000 in
theorem i66_6 : INS 66 6 = some (10, 3, 19, 0, .null, []) := rfl
set_option maxRecDepth 100000 in
theorem i66_9 : INS 66 9 = some (0, 1, 1, 0, .null, []) := rfl
set_option maxRecDepth 100000 in
theorem i66_10 : INS 66 10 = some (2, 2, 0, 0, .int 7, []) := rfl
set_option maxRecDepth 100000 in
theorem i66_12 : INS 66 12 = some (10, 3, 19, 0, .null, []) := rfl
set_option maxRecDepth 100000 in
theorem i66_15 : INS 66 15 = some (2, 1, 0, 0, .int 1, []) := rfl
set_option maxRecDepth 100000 in
theorem i66_16 : INS 66 16 = some (12, 3, 20, 0, .null, []) := rfl
set_option maxRecDepth 100000 in
theorem i66_19 : INS 66 19 = some (2, 1, 0, 0, .int 0, []) := rfl
set_option maxRecDepth 100000 in
theorem i66_20 : INS 66 20 = some (27, 1, 0, 0, .null, []) := rfl
set_option maxRecDepth 100000 in
theorem i67_0 : INS 67 0 = some (0, 1, 1, 0, .null, []) := rfl
set_option maxRecDepth 100000 in
theorem i67_1 : INS 67 1 = some (9, 3, 18, 0, .null, []) := rfl
set_option maxRecDepth 100000 in
theorem i67_4 : INS 67 4 = some (0, 1, 1, 0, .null, []) := rfl
set_option maxRecDepth 100000 in
theorem i67_5 : INS 67 5 = some (2, 1, 0, 0, .int 3, []) := rfl
set_option maxRecDepth 100000 in
theorem i67_6 : INS 67 6 = some (10, 3, 18, 0, .null, []) := rfl
set_option maxRecDepth 100000 in
theorem i67_9 : INS 67 9 = some (0, 1, 1, 0, .null, []) := rfl
set_option maxRecDepth 100000 in
theorem i67_10 : INS 67 10 = some (2, 1, 0, 0, .int 5, []) := rfl
set_option maxRecDepth 100000 in
theorem i67_11 : INS 67 11 = some (10, 3, 18, 0, .null, []) := rfl
set_option maxRecDepth 100000 in
theorem i67_14 : INS 67 14 = some (2, 1, 0, 0, .int 1, []) := rfl
set_option maxRecDepth 100000 in
theorem i67_15 : INS 67 15 = some (12, 3, 19, 0, .null, []) := rfl
set_option maxRecDepth 100000 in
theorem i67_18 : INS 67 18 = some (2, 1, 0, 0, .int 0, []) := rfl
set_option maxRecDepth 100000 in
theorem i67_19 : INS 67 19 = some (27, 1, 0, 0, .null, []) := rfl
set_option maxRecDepth 100000 in
theorem i118_0 : INS 118 0 = some (0, 1, 0, 0, .null, []) := rfl
set_option maxRecDepth 100000 in
theorem i118_1 : INS 118 1 = some (2, 2, 0, 0, .int 7, []) := rfl
set_option maxRecDepth 100000 in
theorem i118_3 : INS 118 3 = some (10, 3, 8, 1, .null, []) := rfl
set_option maxRecDepth 100000 in
theorem i118_6 : INS 118 6 = some (2, 1, 0, 0, .int 1, []) := rfl
set_option maxRecDepth 100000 in
theorem i118_7 : INS 118 7 = some (27, 1, 0, 0, .null, []) := rfl
set_option maxRecDepth 100000 in
theorem i118_8 : INS 118 8 = some (0, 1, 0, 0, .null, []) := rfl
set_option maxRecDepth 100000 in
theorem i118_9 : INS 118 9 = some (2, 1, 0, 0, .int 4, []) := rfl
set_option maxRecDepth 100000 in
theorem i118_10 : INS 118 10 = some (10, 3, 41, 1, .null, []) := rfl
set_option maxRecDepth 100000 in
theorem i118_13 : INS 118 13 = some (0, 1, 1, 0, .null, []) := rfl
set_option maxRecDepth 100000 in
theorem i118_14 : INS 118 14 = some (2, 1, 0, 0, .int 0, []) := rfl
set_option maxRecDepth 100000 in
theorem i118_15 : INS 118 15 = some (2, 2, 0, 0, .int 15, []) := rfl
set_option maxRecDepth 100000 in
theorem i118_17 : INS 118 17 = some (24, 3, 114, 2, .null, []) := rfl
set_option maxRecDepth 100000 in
theorem i118_20 : INS 118 20 = some (9, 3, 39, 0, .null, []) := rfl
set_option maxRecDepth 100000 in
theorem i118_23 : INS 118 23 = some (0, 1, 1, 0, .null, []) := rfl
set_option maxRecDepth 100000 in
theorem i118_24 : INS 118 24 = some (24, 3, 195, 2, .null, []) := rfl
set_option maxRecDepth 100000 in
theorem i118_27 : INS 118 27 = some (2, 1, 0, 0, .int 2, []) := rfl
set_option maxRecDepth 100000 in
theorem i118_28 : INS 118 28 = some (2, 1, 0, 0, .int 3, []) := rfl
set_option maxRecDepth 100000 in
theorem i118_29 : INS 118 29 = some (24, 3, 114, 2, .null, []) := rfl
set_option maxRecDepth 100000 in
theorem i118_32 : INS 118 32 = some (9, 3, 39, 0, .null, []) := rfl
set_option maxRecDepth 100000 in
theorem i118_35 : INS 118 35 = some (2, 1, 0, 0, .int 1, []) := rfl
set_option maxRecDepth 100000 in
theorem i118_36 : INS 118 36 = some (12, 3, 40, 0, .null, []) := rfl
set_option maxRecDepth 100000 in
theorem i118_39 : INS 118 39 = some (2, 1, 0, 0, .int 0, []) := rfl
set_option maxRecDepth 100000 in
theorem i118_40 : INS 118 40 = some (27, 1, 0, 0, .null, []) := rfl
set_option maxRecDepth 100000 in
theorem i118_41 : INS 118 41 = some (0, 1, 1, 0, .null, []) := rfl
set_option maxRecDepth 100000 in
theorem i118_42 : INS 118 42 = some (2, 1, 0, 0, .int 0, []) := rfl
set_option maxRecDepth 100000 in
theorem i118_43 : INS 118 43 = some (2, 1, 0, 0, .int 3, []) := rfl
set_option maxRecDepth 100000 in
theorem i118_44 : INS 118 44 = some (24, 3, 114, 2, .null, []) := rfl
set_option maxRecDepth 100000 in
theorem i118_47 : INS 118 47 = some (27, 1, 0, 0, .null, []) := rfl
set_option maxRecDepth 100000 in
theorem i119_0 : INS 119 0 = some (0, 1, 1, 0, .null, []) := rfl
set_option maxRecDepth 100000 in
theorem i119_1 : INS 119 1 = some (2, 2, 0, 0, .int 12, []) := rfl
set_option maxRecDepth 100000 in
theorem i119_3 : INS 119 3 = some (0, 1, 0, 0, .null, []) := rfl
set_option maxRecDepth 100000 in
theorem i119_4 : INS 119 4 = some (2, 2, 0, 0, .int 12, []) := rfl
set_option maxRecDepth 100000 in
theorem i119_6 : INS 119 6 = some (3, 1, 4, 0, .null, []) := rfl
set_option maxRecDepth 100000 in
theorem i119_7 : INS 119 7 = some (3, 1, 1, 0, .null, []) := rfl
set_option maxRecDepth 100000 in
theorem i119_8 : INS 119 8 = some (10, 3, 26, 4, .null, []) := rfl
set_option maxRecDepth 100000 in
theorem i119_11 : INS 119 11 = some (0, 1, 2, 0, .null, []) := rfl
set_option maxRecDepth 100000 in
theorem i119_12 : INS 119 12 = some (2, 2, 0, 0, .int 12, []) := rfl
set_option maxRecDepth 100000 in
theorem i119_14 : INS 119 14 = some (0, 1, 0, 0, .null, []) := rfl
set_option maxRecDepth 100000 in
theorem i119_15 : INS 119 15 = some (2, 2, 0, 0, .int 12, []) := rfl
set_option maxRecDepth 100000 in
theorem i119_17 : INS 119 17 = some (3, 1, 3, 0, .null, []) := rfl
set_option maxRecDepth 100000 in
theorem i119_18 : INS 119 18 = some (3, 1, 1, 0, .null, []) := rfl
set_option maxRecDepth 100000 in
theorem i119_19 : INS 119 19 = some (10, 3, 26, 4, .null, []) := rfl
set_option maxRecDepth 100000 in
theorem i119_22 : INS 119 22 = some (2, 1, 0, 0, .int 1, []) := rfl
set_option maxRecDepth 100000 in
theorem i119_23 : INS 119 23 = some (12, 3, 27, 0, .null, []) := rfl
set_option maxRecDepth 100000 in
theorem i119_26 : INS 119 26 = some (2, 1, 0, 0, .int 0, []) := rfl
set_option maxRecDepth 100000 in
theorem i119_27 : INS 119 27 = some (27, 1, 0, 0, .null, []) := rfl
set_option maxRecDepth 100000 in
theorem i120_0 : INS 120 0 = some (0, 1, 0, 0, .null, []) := rfl
set_option maxRecDepth 100000 in
theorem i120_1 : INS 120 1 = some (2, 1, 0, 0, .int 2, []) := rfl
set_option maxRecDepth 100000 in
theorem i120_2 : INS 120 2 = some (3, 1, 0, 0, .null, []) := rfl
set_option maxRecDepth 100000 in
theorem i120_3 : INS 120 3 = some (2, 1, 0, 0, .int 3, []) := rfl
set_option maxRecDepth 100000 in
theorem i120_4 : INS 120 4 = some (3, 1, 5, 0, .null, []) := rfl
set_option maxRecDepth 100000 in
theorem i120_5 : INS 120 5 = some (27, 1, 0, 0, .null, []) := rfl
set_option maxRecDepth 100000 in
theorem i121_0 : INS 121 0 = some (0, 1, 0, 0, .null, []) := rfl
set_option maxRecDepth 100000 in
theorem i121_1 : INS 121 1 = some (2, 2, 0, 0, .int 12, []) := rfl
set_option maxRecDepth 100000 in
theorem i121_3 : INS 121 3 = some (3, 1, 4, 0, .null, []) := rfl
set_option maxRecDepth 100000 in
theorem i121_4 : INS 121 4 = some (1, 1, 2, 0, .null, []) := rfl
set_option maxRecDepth 100000 in
theorem i121_5 : INS 121 5 = some (0, 1, 0, 0, .null, []) := rfl
set_option maxRecDepth 100000 in
theorem i121_6 : INS 121 6 = some (2, 2, 0, 0, .int 12, []) := rfl
set_option maxRecDepth 100000 in
theorem i121_8 : INS 121 8 = some (3, 1, 3, 0, .null, []) := rfl
set_option maxRecDepth 100000 in
theorem i121_9 : INS 121 9 = some (1, 1, 3, 0, .null, []) := rfl
set_option maxRecDepth 100000 in
theorem i121_10 : INS 121 10 = some (0, 1, 1, 0, .null, []) := rfl
set_option maxRecDepth 100000 in
theorem i121_11 : INS 121 11 = some (13, 25, 78, 0, .null, [36, 49, 63]) := rfl
set_option maxRecDepth 100000 in
theorem i121_36 : INS 121 36 = some (0, 1, 3, 0, .null, []) := rfl
set_option maxRecDepth 100000 in
theorem i121_37 : INS 121 37 = some (9, 3, 47, 5, .null, []) := rfl
set_option maxRecDepth 100000 in
theorem i121_40 : INS 121 40 = some (0, 1, 0, 0, .null, []) := rfl
set_option maxRecDepth 100000 in
theorem i121_41 : INS 121 41 = some (2, 2, 0, 0, .int 12, []) := rfl
set_option maxRecDepth 100000 in
theorem i121_43 : INS 121 43 = some (3, 1, 1, 0, .null, []) := rfl
set_option maxRecDepth 100000 in
theorem i121_44 : INS 121 44 = some (12, 3, 48, 0, .null, []) := rfl
set_option maxRecDepth 100000 in
theorem i121_47 : INS 121 47 = some (2, 1, 0, 0, .int (-1), []) := rfl
set_option maxRecDepth 100000 in
theorem i121_48 : INS 121 48 = some (27, 1, 0, 0, .null, []) := rfl
set_option maxRecDepth 100000 in
theorem i121_49 : INS 121 49 = some (0, 1, 2, 0, .null, []) := rfl
set_option maxRecDepth 100000 in
theorem i121_50 : INS 121 50 = some (2, 2, 0, 0, .int 11, []) := rfl
set_option maxRecDepth 100000 in
theorem i121_52 : INS 121 52 = some (10, 3, 61, 3, .null, []) := rfl
set_option maxRecDepth 100000 in
theorem i121_55 : INS 121 55 = some (0, 1, 0, 0, .null, []) := rfl
set_option maxRecDepth 100000 in
theorem i121_56 : INS 121 56 = some (2, 1, 0, 0, .int 1, []) := rfl
set_option maxRecDepth 100000 in
theorem i121_57 : INS 121 57 = some (3, 1, 0, 0, .null, []) := rfl
set_option maxRecDepth 100000 in
theorem i121_58 : INS 121 58 = some (12, 3, 62, 0, .null, []) := rfl
set_option maxRecDepth 100000 in
theorem i121_61 : INS 121 61 = some (2, 1, 0, 0, .int (-1), []) := rfl
set_option maxRecDepth 100000 in
theorem i121_62 : INS 121 62 = some (27, 1, 0, 0, .null, []) := rfl
set_option maxRecDepth 100000 in
theorem i121_63 : INS 121 63 = some (0, 1, 3, 0, .null, []) := rfl
set_option maxRecDepth 100000 in
theorem i121_64 : INS 121 64 = some (2, 2, 0, 0, .int 11, []) := rfl
set_option maxRecDepth 100000 in
theorem i121_66 : INS 121 66 = some (10, 3, 76, 3, .null, []) := rfl
set_option maxRecDepth 100000 in
theorem i121_69 : INS 121 69 = some (0, 1, 0, 0, .null, []) := rfl
set_option maxRecDepth 100000 in
theorem i121_70 : INS 121 70 = some (2, 2, 0, 0, .int 12, []) := rfl
set_option maxRecDepth 100000 in
theorem i121_72 : INS 121 72 = some (3, 1, 0, 0, .null, []) := rfl
set_option maxRecDepth 100000 in
theorem i121_73 : INS 121 73 = some (12, 3, 77, 0, .null, []) := rfl
set_option maxRecDepth 100000 in
theorem i121_76 : INS 121 76 = some (2, 1, 0, 0, .int (-1), []) := rfl
set_option maxRecDepth 100000 in
theorem i121_77 : INS 121 77 = some (27, 1, 0, 0, .null, []) := rfl
set_option maxRecDepth 100000 in
theorem i121_78 : INS 121 78 = some (0, 1, 2, 0, .null, []) := rfl
set_option maxRecDepth 100000 in
theorem i121_79 : INS 121 79 = some (9, 3, 88, 5, .null, []) := rfl
set_option maxRecDepth 100000 in
theorem i121_82 : INS 121 82 = some (0, 1, 0, 0, .null, []) := rfl
set_option maxRecDepth 100000 in
theorem i121_83 : INS 121 83 = some (2, 1, 0, 0, .int 1, []) := rfl
set_option maxRecDepth 100000 in
theorem i121_84 : INS 121 84 = some (3, 1, 1, 0, .null, []) := rfl
set_option maxRecDepth 100000 in
theorem i121_85 : INS 121 85 = some (12, 3, 89, 0, .null, []) := rfl
set_option maxRecDepth 100000 in
theorem i121_88 : INS 121 88 = some (2, 1, 0, 0, .int (-1), []) := rfl
set_option maxRecDepth 100000 in
theorem i121_89 : INS 121 89 = some (27, 1, 0, 0, .null, []) := rfl
set_option maxRecDepth 100000 in
theorem i127_0 : INS 127 0 = some (0, 1, 0, 0, .null, []) := rfl
set_option maxRecDepth 100000 in
theorem i127_1 : INS 127 1 = some (2, 2, 0, 0, .int 12, []) := rfl
set_option maxRecDepth 100000 in
theorem i127_3 : INS 127 3 = some (3, 1, 4, 0, .null, []) := rfl
set_option maxRecDepth 100000 in
theorem i127_4 : INS 127 4 = some (0, 1, 1, 0, .null, []) := rfl
set_option maxRecDepth 100000 in
theorem i127_5 : INS 127 5 = some (2, 1, 0, 0, .int 1, []) := rfl
set_option maxRecDepth 100000 in
theorem i127_6 : INS 127 6 = some (10, 3, 13, 1, .null, []) := rfl
set_option maxRecDepth 100000 in
theorem i127_9 : INS 127 9 = some (2, 1, 0, 0, .int 1, []) := rfl
set_option maxRecDepth 100000 in
theorem i127_10 : INS 127 10 = some (12, 3, 23, 0, .null, []) := rfl
set_option maxRecDepth 100000 in
theorem i127_13 : INS 127 13 = some (0, 1, 1, 0, .null, []) := rfl
set_option maxRecDepth 100000 in
theorem i127_14 : INS 127 14 = some (2, 1, 0, 0, .int 3, []) := rfl
set_option maxRecDepth 100000 in
theorem i127_15 : INS 127 15 = some (10, 3, 22, 1, .null, []) := rfl
set_option maxRecDepth 100000 in
theorem i127_18 : INS 127 18 = some (2, 1, 0, 0, .int (-1), []) := rfl
set_option maxRecDepth 100000 in
theorem i127_19 : INS 127 19 = some (12, 3, 23, 0, .null, []) := rfl
set_option maxRecDepth 100000 in
theorem i127_22 : INS 127 22 = some (2, 1, 0, 0, .int 0, []) := rfl
set_option maxRecDepth 100000 in
theorem i127_23 : INS 127 23 = some (3, 1, 0, 0, .null, []) := rfl
set_option maxRecDepth 100000 in
theorem i127_24 : INS 127 24 = some (1, 1, 2, 0, .null, []) := rfl
set_option maxRecDepth 100000 in
theorem i127_25 : INS 127 25 = some (0, 1, 0, 0, .null, []) := rfl
set_option maxRecDepth 100000 in
theorem i127_26 : INS 127 26 = some (2, 2, 0, 0, .int 12, []) := rfl
set_option maxRecDepth 100000 in
theorem i127_28 : INS 127 28 = some (3, 1, 3, 0, .null, []) := rfl
set_option maxRecDepth 100000 in
theorem i127_29 : INS 127 29 = some (0, 1, 1, 0, .null, []) := rfl
set_option maxRecDepth 100000 in
theorem i127_30 : INS 127 30 = some (2, 1, 0, 0, .int 2, []) := rfl
set_option maxRecDepth 100000 in
theorem i127_31 : INS 127 31 = some (10, 3, 38, 1, .null, []) := rfl
set_option maxRecDepth 100000 in
theorem i127_34 : INS 127 34 = some (2, 1, 0, 0, .int 1, []) := rfl
set_option maxRecDepth 100000 in
theorem i127_35 : INS 127 35 = some (12, 3, 47, 0, .null, []) := rfl
set_option maxRecDepth 100000 in
theorem i127_38 : INS 127 38 = some (0, 1, 1, 0, .null, []) := rfl
set_option maxRecDepth 100000 in
theorem i127_39 : INS 127 39 = some (9, 3, 46, 1, .null, []) := rfl
set_option maxRecDepth 100000 in
theorem i127_42 : INS 127 42 = some (2, 1, 0, 0, .int (-1), []) := rfl
set_option maxRecDepth 100000 in
theorem i127_43 : INS 127 43 = some (12, 3, 47, 0, .null, []) := rfl
set_option maxRecDepth 100000 in
theorem i127_46 : INS 127 46 = some (2, 1, 0, 0, .int 0, []) := rfl
set_option maxRecDepth 100000 in
theorem i127_47 : INS 127 47 = some (3, 1, 0, 0, .null, []) := rfl
set_option maxRecDepth 100000 in
theorem i127_48 : INS 127 48 = some (1, 1, 3, 0, .null, []) := rfl
set_option maxRecDepth 100000 in
theorem i127_49 : INS 127 49 = some (0, 1, 2, 0, .null, []) := rfl
set_option maxRecDepth 100000 in
theorem i127_50 : INS 127 50 = some (2, 1, 0, 0, .int 0, []) := rfl
set_option maxRecDepth 100000 in
theorem i127_51 : INS 127 51 = some (2, 2, 0, 0, .int 11, []) := rfl
set_option maxRecDepth 100000 in
theorem i127_53 : INS 127 53 = some (24, 3, 123, 2, .null, []) := rfl
set_option maxRecDepth 100000 in
theorem i127_56 : INS 127 56 = some (9, 3, 78, 0, .null, []) := rfl
set_option maxRecDepth 100000 in
theorem i127_59 : INS 127 59 = some (0, 1, 3, 0, .null, []) := rfl
set_option maxRecDepth 100000 in
theorem i127_60 : INS 127 60 = some (2, 1, 0, 0, .int 0, []) := rfl
set_option maxRecDepth 100000 in
theorem i127_61 : INS 127 61 = some (2, 2, 0, 0, .int 11, []) := rfl
set_option maxRecDepth 100000 in
theorem i127_63 : INS 127 63 = some (24, 3, 123, 2, .null, []) := rfl
set_option maxRecDepth 100000 in
theorem i127_66 : INS 127 66 = some (9, 3, 78, 0, .null, []) := rfl
set_option maxRecDepth 100000 in
theorem i127_69 : INS 127 69 = some (2, 2, 0, 0, .int 12, []) := rfl
set_option maxRecDepth 100000 in
theorem i127_71 : INS 127 71 = some (0, 1, 3, 0, .null, []) := rfl
set_option maxRecDepth 100000 in
theorem i127_72 : INS 127 72 = some (3, 1, 2, 0, .null, []) := rfl
set_option maxRecDepth 100000 in
theorem i127_73 : INS 127 73 = some (0, 1, 2, 0, .null, []) := rfl
set_option maxRecDepth 100000 in
theorem i127_74 : INS 127 74 = some (3, 1, 0, 0, .null, []) := rfl
set_option maxRecDepth 100000 in
theorem i127_75 : INS 127 75 = some (12, 3, 79, 0, .null, []) := rfl
set_option maxRecDepth 100000 in
theorem i127_78 : INS 127 78 = some (2, 1, 0, 0, .int (-1), []) := rfl
set_option maxRecDepth 100000 in
theorem i127_79 : INS 127 79 = some (27, 1, 0, 0, .null, []) := rfl
set_option maxRecDepth 100000 in
theorem i131_0 : INS 131 0 = some (0, 1, 0, 0, .null, []) := rfl
set_option maxRecDepth 100000 in
theorem i131_1 : INS 131 1 = some (2, 1, 0, 0, .int 1, []) := rfl
set_option maxRecDepth 100000 in
theorem i131_2 : INS 131 2 = some (3, 1, 5, 0, .null, []) := rfl
set_option maxRecDepth 100000 in
theorem i131_3 : INS 131 3 = some (0, 1, 0, 0, .null, []) := rfl
set_option maxRecDepth 100000 in
theorem i131_4 : INS 131 4 = some (2, 1, 0, 0, .int 1, []) := rfl
set_option maxRecDepth 100000 in
theorem i131_5 : INS 131 5 = some (3, 1, 9, 0, .null, []) := rfl
set_option maxRecDepth 100000 in
theorem i131_6 : INS 131 6 = some (2, 1, 0, 0, .int 1, []) := rfl
set_option maxRecDepth 100000 in
theorem i131_7 : INS 131 7 = some (3, 1, 5, 0, .null, []) := rfl
set_option maxRecDepth 100000 in
theorem i131_8 : INS 131 8 = some (3, 1, 0, 0, .null, []) := rfl
set_option maxRecDepth 100000 in
theorem i131_9 : INS 131 9 = some (0, 1, 0, 0, .null, []) := rfl
set_option maxRecDepth 100000 in
theorem i131_10 : INS 131 10 = some (2, 1, 0, 0, .int 2, []) := rfl
set_option maxRecDepth 100000 in
theorem i131_11 : INS 131 11 = some (3, 1, 9, 0, .null, []) := rfl
set_option maxRecDepth 100000 in
theorem i131_12 : INS 131 12 = some (2, 1, 0, 0, .int 1, []) := rfl
set_option maxRecDepth 100000 in
theorem i131_13 : INS 131 13 = some (3, 1, 5, 0, .null, []) := rfl
set_option maxRecDepth 100000 in
theorem i131_14 : INS 131 14 = some (3, 1, 0, 0, .null, []) := rfl
set_option maxRecDepth 100000 in
theorem i131_15 : INS 131 15 = some (0, 1, 0, 0, .null, []) := rfl
set_option maxRecDepth 100000 in
theorem i131_16 : INS 131 16 = some (2, 1, 0, 0, .int 3, []) := rfl
set_option maxRecDepth 100000 in
theorem i131_17 : INS 131 17 = some (3, 1, 9, 0, .null, []) := rfl
set_option maxRecDepth 100000 in
theorem i131_18 : INS 131 18 = some (2, 1, 0, 0, .int 1, []) := rfl
set_option maxRecDepth 100000 in
theorem i131_19 : INS 131 19 = some (3, 1, 5, 0, .null, []) := rfl
set_option maxRecDepth 100000 in
theorem i131_20 : INS 131 20 = some (3, 1, 0, 0, .null, []) := rfl
set_option maxRecDepth 100000 in
theorem i131_21 : INS 131 21 = some (27, 1, 0, 0, .null, []) := rfl
set_option maxRecDepth 100000 in
theorem i138_0 : INS 138 0 = some (0, 1, 0, 0, .null, []) := rfl
set_option maxRecDepth 100000 in
theorem i138_1 : INS 138 1 = some (9, 3, 11, 1, .null, []) := rfl
set_option maxRecDepth 100000 in
theorem i138_4 : INS 138 4 = some (0, 1, 1, 1, .null, []) := rfl
set_option maxRecDepth 100000 in
theorem i138_5 : INS 138 5 = some (6, 1, 2, 0, .null, []) := rfl
set_option maxRecDepth 100000 in
theorem i138_6 : INS 138 6 = some (6, 1, 3, 0, .null, []) := rfl
set_option maxRecDepth 100000 in
theorem i138_7 : INS 138 7 = some (6, 1, 1, 0, .null, []) := rfl
set_option maxRecDepth 100000 in
theorem i138_8 : INS 138 8 = some (12, 3, 35, 0, .null, []) := rfl
set_option maxRecDepth 100000 in
theorem i138_11 : INS 138 11 = some (0, 1, 0, 0, .null, []) := rfl
set_option maxRecDepth 100000 in
theorem i138_12 : INS 138 12 = some (2, 1, 0, 0, .int 1, []) := rfl
set_option maxRecDepth 100000 in
theorem i138_13 : INS 138 13 = some (10, 3, 23, 1, .null, []) := rfl
set_option maxRecDepth 100000 in
theorem i138_16 : INS 138 16 = some (0, 1, 1, 1, .null, []) := rfl
set_option maxRecDepth 100000 in
theorem i138_17 : INS 138 17 = some (6, 1, 2, 0, .null, []) := rfl
set_option maxRecDepth 100000 in
theorem i138_18 : INS 138 18 = some (6, 1, 4, 0, .null, []) := rfl
set_option maxRecDepth 100000 in
theorem i138_19 : INS 138 19 = some (6, 1, 1, 0, .null, []) := rfl
set_option maxRecDepth 100000 in
theorem i138_20 : INS 138 20 = some (12, 3, 35, 0, .null, []) := rfl
set_option maxRecDepth 100000 in
theorem i138_23 : INS 138 23 = some (0, 1, 0, 0, .null, []) := rfl
set_option maxRecDepth 100000 in
theorem i138_24 : INS 138 24 = some (2, 1, 0, 0, .int 2, []) := rfl
set_option maxRecDepth 100000 in
theorem i138_25 : INS 138 25 = some (10, 3, 34, 1, .null, []) := rfl
set_option maxRecDepth 100000 in
theorem i138_28 : INS 138 28 = some (0, 1, 1, 1, .null, []) := rfl
set_option maxRecDepth 100000 in
theorem i138_29 : INS 138 29 = some (6, 1, 2, 0, .null, []) := rfl
set_option maxRecDepth 100000 in
theorem i138_30 : INS 138 30 = some (6, 1, 1, 0, .null, []) := rfl
set_option maxRecDepth 100000 in
theorem i138_31 : INS 138 31 = some (12, 3, 35, 0, .null, []) := rfl
set_option maxRecDepth 100000 in
theorem i138_34 : INS 138 34 = some (0, 1, 1, 1, .null, []) := rfl
set_option maxRecDepth 100000 in
theorem i138_35 : INS 138 35 = some (27, 1, 1, 0, .null, []) := rfl
set_option maxRecDepth 100000 in
theorem i150_0 : INS 150 0 = some (0, 1, 0, 0, .null, []) := rfl
set_option maxRecDepth 100000 in
theorem i150_1 : INS 150 1 = some (2, 1, 0, 0, .int 4, []) := rfl
set_option maxRecDepth 100000 in
theorem i150_2 : INS 150 2 = some (10, 3, 20, 1, .null, []) := rfl
set_option maxRecDepth 100000 in
theorem i150_5 : INS 150 5 = some (0, 1, 1, 0, .null, []) := rfl
set_option maxRecDepth 100000 in
theorem i150_6 : INS 150 6 = some (0, 1, 2, 0, .null, []) := rfl
set_option maxRecDepth 100000 in
theorem i150_7 : INS 150 7 = some (3, 1, 8, 0, .null, []) := rfl
set_option maxRecDepth 100000 in
theorem i150_8 : INS 150 8 = some (0, 1, 1, 0, .null, []) := rfl
set_option maxRecDepth 100000 in
theorem i150_9 : INS 150 9 = some (2, 1, 0, 0, .int 4, []) := rfl
set_option maxRecDepth 100000 in
theorem i150_10 : INS 150 10 = some (0, 1, 2, 0, .null, []) := rfl
set_option maxRecDepth 100000 in
theorem i150_11 : INS 150 11 = some (3, 1, 1, 0, .null, []) := rfl
set_option maxRecDepth 100000 in
theorem i150_12 : INS 150 12 = some (3, 1, 9, 0, .null, []) := rfl
set_option maxRecDepth 100000 in
theorem i150_13 : INS 150 13 = some (3, 1, 6, 0, .null, []) := rfl
set_option maxRecDepth 100000 in
theorem i150_14 : INS 150 14 = some (2, 2, 0, 0, .int 15, []) := rfl
set_option maxRecDepth 100000 in
theorem i150_16 : INS 150 16 = some (3, 1, 5, 0, .null, []) := rfl
set_option maxRecDepth 100000 in
theorem i150_17 : INS 150 17 = some (12, 3, 25, 0, .null, []) := rfl
set_option maxRecDepth 100000 in
theorem i150_20 : INS 150 20 = some (0, 1, 1, 0, .null, []) := rfl
set_option maxRecDepth 100000 in
theorem i150_21 : INS 150 21 = some (0, 1, 2, 0, .null, []) := rfl
set_option maxRecDepth 100000 in
theorem i150_22 : INS 150 22 = some (3, 1, 0, 0, .null, []) := rfl
set_option maxRecDepth 100000 in
theorem i150_23 : INS 150 23 = some (2, 1, 0, 0, .int 4, []) := rfl
set_option maxRecDepth 100000 in
theorem i150_24 : INS 150 24 = some (3, 1, 4, 0, .null, []) := rfl
set_option maxRecDepth 100000 in
theorem i150_25 : INS 150 25 = some (27, 1, 0, 0, .null, []) := rfl
-- FloorTurn.sideFits(II)Z
set_option maxHeartbeats 8000000 in
set_option maxRecDepth 100000 in
theorem v118 {L : Nat} {xs : Nat → Int32} {Q : Option Value → Hp → Prop} {h : Hp} {x : Int32} {y : Int32}  
  (H : ((x = 7) → (Q (some (.int 1)) h)) ∧ (¬ (x = 7) → (((x = 4) → (Q (some (.int (b2i (if (x_in3 y 0 15) = true then (if (x_in3 (bc y) 2 3) = true then (true) else (false)) else (false))))) h)) ∧ (¬ (x = 4) → (Q (some (.int (b2i (x_in3 y 0 3)))) h))))) : ∃ r h', Sp L xs 118 [.int x, .int y] h r h' ∧ Q r h' := by
  refine sp_ex (ls := [some (.int x), some (.int y)]) rfl ?_
  refine e_ld (pc' := 1) i118_0 rfl rfl ?_
  refine e_cn (pc' := 3) i118_1 rfl ?_
  refine e_ic (pc' := 6) i118_3 rfl (fun c1 => ?_) (fun c1 => ?_)
  · have d2 : ¬ (x = 7) := (of_decide_eq_true c1)
    replace H := H.2 d2
    refine e_ld (pc' := 9) i118_8 rfl rfl ?_
    refine e_cn (pc' := 10) i118_9 rfl ?_
    refine e_ic (pc' := 13) i118_10 rfl (fun c3 => ?_) (fun c3 => ?_)
    · have d4 : ¬ (x = 4) := (of_decide_eq_true c3)
      replace H := H.2 d4
      refine e_ld (pc' := 42) i118_41 rfl rfl ?_
      refine e_cn (pc' := 43) i118_42 rfl ?_
      refine e_cn (pc' := 44) i118_43 rfl ?_
      refine e_cI (w := .int (b2i (x_in3 y 0 3))) (As := [.int y, .int 0, .int 3]) (rest := []) (pc' := 47) i118_44 rfl rfl rfl rfl rfl m114 ?_
      refine e_rt (r := some (.int (b2i (x_in3 y 0 3)))) i118_47 (by simp only [x_rt, show MR 118 = some .boolean by decide +kernel, b2i_01, cond_true]) ?_
      exact H
    · have d5 : x = 4 := (Decidable.not_not.mp (of_decide_eq_false c3))
      replace H := H.1 d5
      refine e_ld (pc' := 14) i118_13 rfl rfl ?_
      refine e_cn (pc' := 15) i118_14 rfl ?_
      refine e_cn (pc' := 17) i118_15 rfl ?_
      refine e_cI (w := .int (b2i (x_in3 y 0 15))) (As := [.int y, .int 0, .int 15]) (rest := []) (pc' := 20) i118_17 rfl rfl rfl rfl rfl m114 ?_
      refine e_reg (pc' := 40) (ls' := [some (.int x), some (.int y)]) (st' := [.int (b2i (if (x_in3 y 0 15) = true then (if (x_in3 (bc y) 2 3) = true then (true) else (false)) else (false)))]) (fun kj6 => ?_) ?_
      · skip
        refine e_b0 (pc' := 23) i118_20 rfl (fun c7 => ?_) (fun c7 => ?_)
        · have d8 : ¬ ((x_in3 y 0 15) = true) := (show ¬ (x_in3 y 0 15) = true by rw [c7]; decide)
          refine e_cn (pc' := 40) i118_39 rfl ?_
          exact (by simp only [if_neg d8] at kj6 ⊢; exact kj6)
        · have d9 : (x_in3 y 0 15) = true := c7
          refine e_ld (pc' := 24) i118_23 rfl rfl ?_
          refine e_cI (w := .int (bc y)) (As := [.int y]) (rest := []) (pc' := 27) i118_24 rfl rfl rfl rfl rfl m195 ?_
          refine e_cn (pc' := 28) i118_27 rfl ?_
          refine e_cn (pc' := 29) i118_28 rfl ?_
          refine e_cI (w := .int (b2i (x_in3 (bc y) 2 3))) (As := [.int (bc y), .int 2, .int 3]) (rest := []) (pc' := 32) i118_29 rfl rfl rfl rfl rfl m114 ?_
          refine e_reg (pc' := 40) (ls' := [some (.int x), some (.int y)]) (st' := [.int (b2i (if (x_in3 (bc y) 2 3) = true then (true) else (false)))]) (fun kj10 => ?_) ?_
          · skip
            refine e_b0 (pc' := 35) i118_32 rfl (fun c11 => ?_) (fun c11 => ?_)
            · have d12 : ¬ ((x_in3 (bc y) 2 3) = true) := (show ¬ (x_in3 (bc y) 2 3) = true by rw [c11]; decide)
              refine e_cn (pc' := 40) i118_39 rfl ?_
              exact (by simp only [if_neg d12] at kj10 ⊢; exact kj10)
            · have d13 : (x_in3 (bc y) 2 3) = true := c11
              refine e_cn (pc' := 36) i118_35 rfl ?_
              refine e_go i118_36 ?_
              exact (by simp only [if_pos d13] at kj10 ⊢; exact kj10)
          exact (by simp only [if_pos d9] at kj6 ⊢; exact kj6)
      refine e_rt (r := some (.int (b2i (if (x_in3 y 0 15) = true then (if (x_in3 (bc y) 2 3) = true then (true) else (false)) else (false))))) i118_40 (by simp only [x_rt, show MR 118 = some .boolean by decide +kernel, b2i_01, cond_true]) ?_
      exact H
  · have d14 : x = 7 := (Decidable.not_not.mp (of_decide_eq_false c1))
    replace H := H.1 d14
    refine e_cn (pc' := 7) i118_6 rfl ?_
    refine e_rt i118_7 rfl ?_
    exact H
-- FloorTurn.isOnFloor(III)Z
set_option maxHeartbeats 8000000 in
set_option maxRecDepth 100000 in
theorem v119 {L : Nat} {xs : Nat → Int32} {Q : Option Value → Hp → Prop} {h : Hp} {x : Int32} {y : Int32} {z : Int32}  
  (H : (((12 - (x - x / 12 * 12)) < y) → (Q (some (.int 0)) h)) ∧ (¬ ((12 - (x - x / 12 * 12)) < y) → (Q (some (.int (b2i (if (12 - (x / 12)) < z then (false) else (true))))) h))) : ∃ r h', Sp L xs 119 [.int x, .int y, .int z] h r h' ∧ Q r h' := by
  refine sp_ex (ls := [some (.int x), some (.int y), some (.int z)]) rfl ?_
  refine e_ld (pc' := 1) i119_0 rfl rfl ?_
  refine e_cn (pc' := 3) i119_1 rfl ?_
  refine e_ld (pc' := 4) i119_3 rfl rfl ?_
  refine e_cn (pc' := 6) i119_4 rfl ?_
  refine e_ib (z := x - x / 12 * 12) (pc' := 7) i119_6 rfl (x_ib_rem (by decide)) ?_
  refine e_ib (z := 12 - (x - x / 12 * 12)) (pc' := 8) i119_7 rfl rfl ?_
  refine e_ic (pc' := 11) i119_8 rfl (fun c1 => ?_) (fun c1 => ?_)
  · have d2 : (12 - (x - x / 12 * 12)) < y := (of_decide_eq_true c1)
    replace H := H.1 d2
    refine e_cn (pc' := 27) i119_26 rfl ?_
    refine e_rt i119_27 rfl ?_
    exact H
  · have d3 : ¬ ((12 - (x - x / 12 * 12)) < y) := (of_decide_eq_false c1)
    replace H := H.2 d3
    refine e_ld (pc' := 12) i119_11 rfl rfl ?_
    refine e_cn (pc' := 14) i119_12 rfl ?_
    refine e_ld (pc' := 15) i119_14 rfl rfl ?_
    refine e_cn (pc' := 17) i119_15 rfl ?_
    refine e_ib (z := x / 12) (pc' := 18) i119_17 rfl (x_ib_div (by decide)) ?_
    refine e_ib (z := 12 - (x / 12)) (pc' := 19) i119_18 rfl rfl ?_
    refine e_reg (pc' := 27) (ls' := [some (.int x), some (.int y), some (.int z)]) (st' := [.int (b2i (if (12 - (x / 12)) < z then (false) else (true)))]) (fun kj4 => ?_) ?_
    · skip
      refine e_ic (pc' := 22) i119_19 rfl (fun c5 => ?_) (fun c5 => ?_)
      · have d6 : (12 - (x / 12)) < z := (of_decide_eq_true c5)
        refine e_cn (pc' := 27) i119_26 rfl ?_
        exact (by simp only [if_pos d6] at kj4 ⊢; exact kj4)
      · have d7 : ¬ ((12 - (x / 12)) < z) := (of_decide_eq_false c5)
        refine e_cn (pc' := 23) i119_22 rfl ?_
        refine e_go i119_23 ?_
        exact (by simp only [if_neg d7] at kj4 ⊢; exact kj4)
    refine e_rt (r := some (.int (b2i (if (12 - (x / 12)) < z then (false) else (true))))) i119_27 (by simp only [x_rt, show MR 119 = some .boolean by decide +kernel, b2i_01, cond_true]) ?_
    exact H
-- FloorTurn.opposite(I)I
set_option maxHeartbeats 8000000 in
set_option maxRecDepth 100000 in
theorem v120 {L : Nat} {xs : Nat → Int32} {Q : Option Value → Hp → Prop} {h : Hp} {x : Int32}  
  (H : Q (some (.int ((x + 2) &&& 3))) h) : ∃ r h', Sp L xs 120 [.int x] h r h' ∧ Q r h' := by
  refine sp_ex (ls := [some (.int x)]) rfl ?_
  refine e_ld (pc' := 1) i120_0 rfl rfl ?_
  refine e_cn (pc' := 2) i120_1 rfl ?_
  refine e_ib (z := x + 2) (pc' := 3) i120_2 rfl rfl ?_
  refine e_cn (pc' := 4) i120_3 rfl ?_
  refine e_ib (z := (x + 2) &&& 3) (pc' := 5) i120_4 rfl rfl ?_
  refine e_rt i120_5 rfl ?_
  exact H
-- FloorTurn.neighbour(II)I
set_option maxHeartbeats 8000000 in
set_option maxRecDepth 100000 in
theorem v121 {L : Nat} {xs : Nat → Int32} {Q : Option Value → Hp → Prop} {h : Hp} {x : Int32} {y : Int32}  
  (H : ((y = 0) → (Q (some (.int (if (x / 12) ≤ 0 then ((-1)) else (x - 12)))) h)) ∧ (¬ (y = 0) → (((y = 1) → (Q (some (.int (if 11 ≤ (x - x / 12 * 12) then ((-1)) else (x + 1)))) h)) ∧ (¬ (y = 1) → (((y = 2) → (Q (some (.int (if 11 ≤ (x / 12) then ((-1)) else (x + 12)))) h)) ∧ (¬ (y = 2) → (Q (some (.int (if (x - x / 12 * 12) ≤ 0 then ((-1)) else (x - 1)))) h))))))) : ∃ r h', Sp L xs 121 [.int x, .int y] h r h' ∧ Q r h' := by
  refine sp_ex (ls := [some (.int x), some (.int y), none, none]) rfl ?_
  refine e_ld (pc' := 1) i121_0 rfl rfl ?_
  refine e_cn (pc' := 3) i121_1 rfl ?_
  refine e_ib (z := x - x / 12 * 12) (pc' := 4) i121_3 rfl (x_ib_rem (by decide)) ?_
  refine e_st (ls' := [some (.int x), some (.int y), some (.int (x - x / 12 * 12)), none]) (pc' := 5) i121_4 rfl rfl rfl ?_
  refine e_ld (pc' := 6) i121_5 rfl rfl ?_
  refine e_cn (pc' := 8) i121_6 rfl ?_
  refine e_ib (z := x / 12) (pc' := 9) i121_8 rfl (x_ib_div (by decide)) ?_
  refine e_st (ls' := [some (.int x), some (.int y), some (.int (x - x / 12 * 12)), some (.int (x / 12))]) (pc' := 10) i121_9 rfl rfl rfl ?_
  refine e_ld (pc' := 11) i121_10 rfl rfl ?_
  by_cases c1 : y = 0
  · replace H := H.1 c1
    refine e_tab (pc' := 36) i121_11 (by rw [c1]; rfl) ?_
    refine e_ld (pc' := 37) i121_36 rfl rfl ?_
    refine e_reg (pc' := 48) (ls' := [some (.int x), some (.int y), some (.int (x - x / 12 * 12)), some (.int (x / 12))]) (st' := [.int (if (x / 12) ≤ 0 then ((-1)) else (x - 12))]) (fun kj2 => ?_) ?_
    · skip
      refine e_if (pc' := 40) i121_37 rfl (fun c3 => ?_) (fun c3 => ?_)
      · have d4 : (x / 12) ≤ 0 := (of_decide_eq_true c3)
        refine e_cn (pc' := 48) i121_47 rfl ?_
        exact (by simp only [if_pos d4] at kj2 ⊢; exact kj2)
      · have d5 : ¬ ((x / 12) ≤ 0) := (of_decide_eq_false c3)
        refine e_ld (pc' := 41) i121_40 rfl rfl ?_
        refine e_cn (pc' := 43) i121_41 rfl ?_
        refine e_ib (z := x - 12) (pc' := 44) i121_43 rfl rfl ?_
        refine e_go i121_44 ?_
        exact (by simp only [if_neg d5] at kj2 ⊢; exact kj2)
    refine e_rt i121_48 rfl ?_
    exact H
  · replace H := H.2 c1
    by_cases c6 : y = 1
    · replace H := H.1 c6
      refine e_tab (pc' := 49) i121_11 (by rw [c6]; rfl) ?_
      refine e_ld (pc' := 50) i121_49 rfl rfl ?_
      refine e_cn (pc' := 52) i121_50 rfl ?_
      refine e_reg (pc' := 62) (ls' := [some (.int x), some (.int y), some (.int (x - x / 12 * 12)), some (.int (x / 12))]) (st' := [.int (if 11 ≤ (x - x / 12 * 12) then ((-1)) else (x + 1))]) (fun kj7 => ?_) ?_
      · skip
        refine e_ic (pc' := 55) i121_52 rfl (fun c8 => ?_) (fun c8 => ?_)
        · have d9 : 11 ≤ (x - x / 12 * 12) := (of_decide_eq_true c8)
          refine e_cn (pc' := 62) i121_61 rfl ?_
          exact (by simp only [if_pos d9] at kj7 ⊢; exact kj7)
        · have d10 : ¬ (11 ≤ (x - x / 12 * 12)) := (of_decide_eq_false c8)
          refine e_ld (pc' := 56) i121_55 rfl rfl ?_
          refine e_cn (pc' := 57) i121_56 rfl ?_
          refine e_ib (z := x + 1) (pc' := 58) i121_57 rfl rfl ?_
          refine e_go i121_58 ?_
          exact (by simp only [if_neg d10] at kj7 ⊢; exact kj7)
      refine e_rt i121_62 rfl ?_
      exact H
    · replace H := H.2 c6
      by_cases c11 : y = 2
      · replace H := H.1 c11
        refine e_tab (pc' := 63) i121_11 (by rw [c11]; rfl) ?_
        refine e_ld (pc' := 64) i121_63 rfl rfl ?_
        refine e_cn (pc' := 66) i121_64 rfl ?_
        refine e_reg (pc' := 77) (ls' := [some (.int x), some (.int y), some (.int (x - x / 12 * 12)), some (.int (x / 12))]) (st' := [.int (if 11 ≤ (x / 12) then ((-1)) else (x + 12))]) (fun kj12 => ?_) ?_
        · skip
          refine e_ic (pc' := 69) i121_66 rfl (fun c13 => ?_) (fun c13 => ?_)
          · have d14 : 11 ≤ (x / 12) := (of_decide_eq_true c13)
            refine e_cn (pc' := 77) i121_76 rfl ?_
            exact (by simp only [if_pos d14] at kj12 ⊢; exact kj12)
          · have d15 : ¬ (11 ≤ (x / 12)) := (of_decide_eq_false c13)
            refine e_ld (pc' := 70) i121_69 rfl rfl ?_
            refine e_cn (pc' := 72) i121_70 rfl ?_
            refine e_ib (z := x + 12) (pc' := 73) i121_72 rfl rfl ?_
            refine e_go i121_73 ?_
            exact (by simp only [if_neg d15] at kj12 ⊢; exact kj12)
        refine e_rt i121_77 rfl ?_
        exact H
      · replace H := H.2 c11
        refine e_tab (pc' := 78) i121_11 (x_tgt_out (by decide) (fun k (hk : k < 3) => by rcases (show k = 0 ∨ k = 1 ∨ k = 2 by omega) with rfl | rfl | rfl <;> assumption)) ?_
        refine e_ld (pc' := 79) i121_78 rfl rfl ?_
        refine e_reg (pc' := 89) (ls' := [some (.int x), some (.int y), some (.int (x - x / 12 * 12)), some (.int (x / 12))]) (st' := [.int (if (x - x / 12 * 12) ≤ 0 then ((-1)) else (x - 1))]) (fun kj16 => ?_) ?_
        · skip
          refine e_if (pc' := 82) i121_79 rfl (fun c17 => ?_) (fun c17 => ?_)
          · have d18 : (x - x / 12 * 12) ≤ 0 := (of_decide_eq_true c17)
            refine e_cn (pc' := 89) i121_88 rfl ?_
            exact (by simp only [if_pos d18] at kj16 ⊢; exact kj16)
          · have d19 : ¬ ((x - x / 12 * 12) ≤ 0) := (of_decide_eq_false c17)
            refine e_ld (pc' := 83) i121_82 rfl rfl ?_
            refine e_cn (pc' := 84) i121_83 rfl ?_
            refine e_ib (z := x - 1) (pc' := 85) i121_84 rfl rfl ?_
            refine e_go i121_85 ?_
            exact (by simp only [if_neg d19] at kj16 ⊢; exact kj16)
        refine e_rt i121_89 rfl ?_
        exact H
-- FloorTurn$Planner.bitOf(I)I
set_option maxHeartbeats 8000000 in
set_option maxRecDepth 100000 in
theorem v54 {L : Nat} {xs : Nat → Int32} {Q : Option Value → Hp → Prop} {h : Hp} {x : Int32}  
  (H : Q (some (.int (if x = (-1) then (0) else (1 <<< ((x : Int32) &&& 31))))) h) : ∃ r h', Sp L xs 54 [.ref 393, .int x] h r h' ∧ Q r h' := by
  refine sp_ex (ls := [some (.ref 393), some (.int x)]) rfl ?_
  refine e_ld (pc' := 1) i54_0 rfl rfl ?_
  refine e_cn (pc' := 2) i54_1 rfl ?_
  refine e_reg (pc' := 12) (ls' := [some (.ref 393), some (.int x)]) (st' := [.int (if x = (-1) then (0) else (1 <<< ((x : Int32) &&& 31)))]) (fun kj1 => ?_) ?_
  · skip
    refine e_ic (pc' := 5) i54_2 rfl (fun c2 => ?_) (fun c2 => ?_)
    · have d3 : ¬ (x = (-1)) := (of_decide_eq_true c2)
      refine e_cn (pc' := 10) i54_9 rfl ?_
      refine e_ld (pc' := 11) i54_10 rfl rfl ?_
      refine e_ib (z := 1 <<< ((x : Int32) &&& 31)) (pc' := 12) i54_11 rfl rfl ?_
      exact (by simp only [if_neg d3] at kj1 ⊢; exact kj1)
    · have d4 : x = (-1) := (Decidable.not_not.mp (of_decide_eq_false c2))
      refine e_cn (pc' := 6) i54_5 rfl ?_
      refine e_go i54_6 ?_
      exact (by simp only [if_pos d4] at kj1 ⊢; exact kj1)
  refine e_rt i54_12 rfl ?_
  exact H
-- FloorTurn$Planner.hasBit(II)Z
set_option maxHeartbeats 8000000 in
set_option maxRecDepth 100000 in
theorem v55 {L : Nat} {xs : Nat → Int32} {Q : Option Value → Hp → Prop} {h : Hp} {x : Int32} {y : Int32}  
  (H : Q (some (.int (b2i (if ((x >>> ((y : Int32) &&& 31)) &&& 1) = 1 then (true) else (false))))) h) : ∃ r h', Sp L xs 55 [.ref 393, .int x, .int y] h r h' ∧ Q r h' := by
  refine sp_ex (ls := [some (.ref 393), some (.int x), some (.int y)]) rfl ?_
  refine e_ld (pc' := 1) i55_0 rfl rfl ?_
  refine e_ld (pc' := 2) i55_1 rfl rfl ?_
  refine e_ib (z := x >>> ((y : Int32) &&& 31)) (pc' := 3) i55_2 rfl rfl ?_
  refine e_cn (pc' := 4) i55_3 rfl ?_
  refine e_ib (z := (x >>> ((y : Int32) &&& 31)) &&& 1) (pc' := 5) i55_4 rfl rfl ?_
  refine e_cn (pc' := 6) i55_5 rfl ?_
  refine e_reg (pc' := 14) (ls' := [some (.ref 393), some (.int x), some (.int y)]) (st' := [.int (b2i (if ((x >>> ((y : Int32) &&& 31)) &&& 1) = 1 then (true) else (false)))]) (fun kj1 => ?_) ?_
  · skip
    refine e_ic (pc' := 9) i55_6 rfl (fun c2 => ?_) (fun c2 => ?_)
    · have d3 : ¬ (((x >>> ((y : Int32) &&& 31)) &&& 1) = 1) := (of_decide_eq_true c2)
      refine e_cn (pc' := 14) i55_13 rfl ?_
      exact (by simp only [if_neg d3] at kj1 ⊢; exact kj1)
    · have d4 : ((x >>> ((y : Int32) &&& 31)) &&& 1) = 1 := (Decidable.not_not.mp (of_decide_eq_false c2))
      refine e_cn (pc' := 10) i55_9 rfl ?_
      refine e_go i55_10 ?_
      exact (by simp only [if_pos d4] at kj1 ⊢; exact kj1)
  refine e_rt (r := some (.int (b2i (if ((x >>> ((y : Int32) &&& 31)) &&& 1) = 1 then (true) else (false))))) i55_14 (by simp only [x_rt, show MR 55 = some .boolean by decide +kernel, b2i_01, cond_true]) ?_
  exact H
-- FloorTurn$Router.canGive(I)Z
set_option maxHeartbeats 8000000 in
set_option maxRecDepth 100000 in
theorem v66 {L : Nat} {xs : Nat → Int32} {Q : Option Value → Hp → Prop} {h : Hp} {x : Int32}  
  (H : Q (some (.int (b2i (if x = 0 then (false) else (if x = 2 then (false) else (if x = 7 then (false) else (true))))))) h) : ∃ r h', Sp L xs 66 [.ref 390, .int x] h r h' ∧ Q r h' := by
  refine sp_ex (ls := [some (.ref 390), some (.int x)]) rfl ?_
  refine e_ld (pc' := 1) i66_0 rfl rfl ?_
  refine e_reg (pc' := 20) (ls' := [some (.ref 390), some (.int x)]) (st' := [.int (b2i (if x = 0 then (false) else (if x = 2 then (false) else (if x = 7 then (false) else (true)))))]) (fun kj1 => ?_) ?_
  · skip
    refine e_if (pc' := 4) i66_1 rfl (fun c2 => ?_) (fun c2 => ?_)
    · have d3 : x = 0 := (of_decide_eq_true c2)
      refine e_cn (pc' := 20) i66_19 rfl ?_
      exact (by simp only [if_pos d3] at kj1 ⊢; exact kj1)
    · have d4 : ¬ (x = 0) := (of_decide_eq_false c2)
      refine e_ld (pc' := 5) i66_4 rfl rfl ?_
      refine e_cn (pc' := 6) i66_5 rfl ?_
      refine e_reg (pc' := 20) (ls' := [some (.ref 390), some (.int x)]) (st' := [.int (b2i (if x = 2 then (false) else (if x = 7 then (false) else (true))))]) (fun kj5 => ?_) ?_
      · skip
        refine e_ic (pc' := 9) i66_6 rfl (fun c6 => ?_) (fun c6 => ?_)
        · have d7 : x = 2 := (of_decide_eq_true c6)
          refine e_cn (pc' := 20) i66_19 rfl ?_
          exact (by simp only [if_pos d7] at kj5 ⊢; exact kj5)
        · have d8 : ¬ (x = 2) := (of_decide_eq_false c6)
          refine e_ld (pc' := 10) i66_9 rfl rfl ?_
          refine e_cn (pc' := 12) i66_10 rfl ?_
          refine e_reg (pc' := 20) (ls' := [some (.ref 390), some (.int x)]) (st' := [.int (b2i (if x = 7 then (false) else (true)))]) (fun kj9 => ?_) ?_
          · skip
            refine e_ic (pc' := 15) i66_12 rfl (fun c10 => ?_) (fun c10 => ?_)
            · have d11 : x = 7 := (of_decide_eq_true c10)
              refine e_cn (pc' := 20) i66_19 rfl ?_
              exact (by simp only [if_pos d11] at kj9 ⊢; exact kj9)
            · have d12 : ¬ (x = 7) := (of_decide_eq_false c10)
              refine e_cn (pc' := 16) i66_15 rfl ?_
              refine e_go i66_16 ?_
              exact (by simp only [if_neg d12] at kj9 ⊢; exact kj9)
          exact (by simp only [if_neg d8] at kj5 ⊢; exact kj5)
      exact (by simp only [if_neg d4] at kj1 ⊢; exact kj1)
  refine e_rt (r := some (.int (b2i (if x = 0 then (false) else (if x = 2 then (false) else (if x = 7 then (false) else (true))))))) i66_20 (by simp only [x_rt, show MR 66 = some .boolean by decide +kernel, b2i_01, cond_true]) ?_
  exact H
-- FloorTurn$Router.canTake(I)Z
set_option maxHeartbeats 8000000 in
set_option maxRecDepth 100000 in
theorem v67 {L : Nat} {xs : Nat → Int32} {Q : Option Value → Hp → Prop} {h : Hp} {x : Int32}  
  (H : Q (some (.int (b2i (if x = 0 then (false) else (if x = 3 then (false) else (if x = 5 then (false) else (true))))))) h) : ∃ r h', Sp L xs 67 [.ref 390, .int x] h r h' ∧ Q r h' := by
  refine sp_ex (ls := [some (.ref 390), some (.int x)]) rfl ?_
  refine e_ld (pc' := 1) i67_0 rfl rfl ?_
  refine e_reg (pc' := 19) (ls' := [some (.ref 390), some (.int x)]) (st' := [.int (b2i (if x = 0 then (false) else (if x = 3 then (false) else (if x = 5 then (false) else (true)))))]) (fun kj1 => ?_) ?_
  · skip
    refine e_if (pc' := 4) i67_1 rfl (fun c2 => ?_) (fun c2 => ?_)
    · have d3 : x = 0 := (of_decide_eq_true c2)
      refine e_cn (pc' := 19) i67_18 rfl ?_
      exact (by simp only [if_pos d3] at kj1 ⊢; exact kj1)
    · have d4 : ¬ (x = 0) := (of_decide_eq_false c2)
      refine e_ld (pc' := 5) i67_4 rfl rfl ?_
      refine e_cn (pc' := 6) i67_5 rfl ?_
      refine e_reg (pc' := 19) (ls' := [some (.ref 390), some (.int x)]) (st' := [.int (b2i (if x = 3 then (false) else (if x = 5 then (false) else (true))))]) (fun kj5 => ?_) ?_
      · skip
        refine e_ic (pc' := 9) i67_6 rfl (fun c6 => ?_) (fun c6 => ?_)
        · have d7 : x = 3 := (of_decide_eq_true c6)
          refine e_cn (pc' := 19) i67_18 rfl ?_
          exact (by simp only [if_pos d7] at kj5 ⊢; exact kj5)
        · have d8 : ¬ (x = 3) := (of_decide_eq_false c6)
          refine e_ld (pc' := 10) i67_9 rfl rfl ?_
          refine e_cn (pc' := 11) i67_10 rfl ?_
          refine e_reg (pc' := 19) (ls' := [some (.ref 390), some (.int x)]) (st' := [.int (b2i (if x = 5 then (false) else (true)))]) (fun kj9 => ?_) ?_
          · skip
            refine e_ic (pc' := 14) i67_11 rfl (fun c10 => ?_) (fun c10 => ?_)
            · have d11 : x = 5 := (of_decide_eq_true c10)
              refine e_cn (pc' := 19) i67_18 rfl ?_
              exact (by simp only [if_pos d11] at kj9 ⊢; exact kj9)
            · have d12 : ¬ (x = 5) := (of_decide_eq_false c10)
              refine e_cn (pc' := 15) i67_14 rfl ?_
              refine e_go i67_15 ?_
              exact (by simp only [if_neg d12] at kj9 ⊢; exact kj9)
          exact (by simp only [if_neg d8] at kj5 ⊢; exact kj5)
      exact (by simp only [if_neg d4] at kj1 ⊢; exact kj1)
  refine e_rt (r := some (.int (b2i (if x = 0 then (false) else (if x = 3 then (false) else (if x = 5 then (false) else (true))))))) i67_19 (by simp only [x_rt, show MR 67 = some .boolean by decide +kernel, b2i_01, cond_true]) ?_
  exact H
-- FloorTurnModel.next(II)I
set_option maxHeartbeats 8000000 in
set_option maxRecDepth 100000 in
theorem v127 {L : Nat} {xs : Nat → Int32} {Q : Option Value → Hp → Prop} {h : Hp} {x : Int32} {y : Int32}  
  (H : Q (some (.int (if (x_in3 ((x - x / 12 * 12) + (if y = 1 then (1) else (if y = 3 then ((-1)) else (0)))) 0 11) = true then (if (x_in3 ((x / 12) + (if y = 2 then (1) else (if y = 0 then ((-1)) else (0)))) 0 11) = true then ((12 * ((x / 12) + (if y = 2 then (1) else (if y = 0 then ((-1)) else (0))))) + ((x - x / 12 * 12) + (if y = 1 then (1) else (if y = 3 then ((-1)) else (0))))) else ((-1))) else ((-1))))) h) : ∃ r h', Sp L xs 127 [.int x, .int y] h r h' ∧ Q r h' := by
  refine sp_ex (ls := [some (.int x), some (.int y), none, none]) rfl ?_
  refine e_ld (pc' := 1) i127_0 rfl rfl ?_
  refine e_cn (pc' := 3) i127_1 rfl ?_
  refine e_ib (z := x - x / 12 * 12) (pc' := 4) i127_3 rfl (x_ib_rem (by decide)) ?_
  refine e_ld (pc' := 5) i127_4 rfl rfl ?_
  refine e_cn (pc' := 6) i127_5 rfl ?_
  refine e_reg (pc' := 23) (ls' := [some (.int x), some (.int y), none, none]) (st' := [.int (if y = 1 then (1) else (if y = 3 then ((-1)) else (0))), .int (x - x / 12 * 12)]) (fun kj1 => ?_) ?_
  · skip
    refine e_ic (pc' := 9) i127_6 rfl (fun c2 => ?_) (fun c2 => ?_)
    · have d3 : ¬ (y = 1) := (of_decide_eq_true c2)
      refine e_ld (pc' := 14) i127_13 rfl rfl ?_
      refine e_cn (pc' := 15) i127_14 rfl ?_
      refine e_reg (pc' := 23) (ls' := [some (.int x), some (.int y), none, none]) (st' := [.int (if y = 3 then ((-1)) else (0)), .int (x - x / 12 * 12)]) (fun kj4 => ?_) ?_
      · skip
        refine e_ic (pc' := 18) i127_15 rfl (fun c5 => ?_) (fun c5 => ?_)
        · have d6 : ¬ (y = 3) := (of_decide_eq_true c5)
          refine e_cn (pc' := 23) i127_22 rfl ?_
          exact (by simp only [if_neg d6] at kj4 ⊢; exact kj4)
        · have d7 : y = 3 := (Decidable.not_not.mp (of_decide_eq_false c5))
          refine e_cn (pc' := 19) i127_18 rfl ?_
          refine e_go i127_19 ?_
          exact (by simp only [if_pos d7] at kj4 ⊢; exact kj4)
      exact (by simp only [if_neg d3] at kj1 ⊢; exact kj1)
    · have d8 : y = 1 := (Decidable.not_not.mp (of_decide_eq_false c2))
      refine e_cn (pc' := 10) i127_9 rfl ?_
      refine e_go i127_10 ?_
      exact (by simp only [if_pos d8] at kj1 ⊢; exact kj1)
  refine e_ib (z := (x - x / 12 * 12) + (if y = 1 then (1) else (if y = 3 then ((-1)) else (0)))) (pc' := 24) i127_23 rfl rfl ?_
  refine e_st (ls' := [some (.int x), some (.int y), some (.int ((x - x / 12 * 12) + (if y = 1 then (1) else (if y = 3 then ((-1)) else (0))))), none]) (pc' := 25) i127_24 rfl rfl rfl ?_
  refine e_ld (pc' := 26) i127_25 rfl rfl ?_
  refine e_cn (pc' := 28) i127_26 rfl ?_
  refine e_ib (z := x / 12) (pc' := 29) i127_28 rfl (x_ib_div (by decide)) ?_
  refine e_ld (pc' := 30) i127_29 rfl rfl ?_
  refine e_cn (pc' := 31) i127_30 rfl ?_
  refine e_reg (pc' := 47) (ls' := [some (.int x), some (.int y), some (.int ((x - x / 12 * 12) + (if y = 1 then (1) else (if y = 3 then ((-1)) else (0))))), none]) (st' := [.int (if y = 2 then (1) else (if y = 0 then ((-1)) else (0))), .int (x / 12)]) (fun kj9 => ?_) ?_
  · skip
    refine e_ic (pc' := 34) i127_31 rfl (fun c10 => ?_) (fun c10 => ?_)
    · have d11 : ¬ (y = 2) := (of_decide_eq_true c10)
      refine e_ld (pc' := 39) i127_38 rfl rfl ?_
      refine e_reg (pc' := 47) (ls' := [some (.int x), some (.int y), some (.int ((x - x / 12 * 12) + (if y = 1 then (1) else (if y = 3 then ((-1)) else (0))))), none]) (st' := [.int (if y = 0 then ((-1)) else (0)), .int (x / 12)]) (fun kj12 => ?_) ?_
      · skip
        refine e_if (pc' := 42) i127_39 rfl (fun c13 => ?_) (fun c13 => ?_)
        · have d14 : ¬ (y = 0) := (of_decide_eq_true c13)
          refine e_cn (pc' := 47) i127_46 rfl ?_
          exact (by simp only [if_neg d14] at kj12 ⊢; exact kj12)
        · have d15 : y = 0 := (Decidable.not_not.mp (of_decide_eq_false c13))
          refine e_cn (pc' := 43) i127_42 rfl ?_
          refine e_go i127_43 ?_
          exact (by simp only [if_pos d15] at kj12 ⊢; exact kj12)
      exact (by simp only [if_neg d11] at kj9 ⊢; exact kj9)
    · have d16 : y = 2 := (Decidable.not_not.mp (of_decide_eq_false c10))
      refine e_cn (pc' := 35) i127_34 rfl ?_
      refine e_go i127_35 ?_
      exact (by simp only [if_pos d16] at kj9 ⊢; exact kj9)
  refine e_ib (z := (x / 12) + (if y = 2 then (1) else (if y = 0 then ((-1)) else (0)))) (pc' := 48) i127_47 rfl rfl ?_
  refine e_st (ls' := [some (.int x), some (.int y), some (.int ((x - x / 12 * 12) + (if y = 1 then (1) else (if y = 3 then ((-1)) else (0))))), some (.int ((x / 12) + (if y = 2 then (1) else (if y = 0 then ((-1)) else (0)))))]) (pc' := 49) i127_48 rfl rfl rfl ?_
  refine e_ld (pc' := 50) i127_49 rfl rfl ?_
  refine e_cn (pc' := 51) i127_50 rfl ?_
  refine e_cn (pc' := 53) i127_51 rfl ?_
  refine e_cI (w := .int (b2i (x_in3 ((x - x / 12 * 12) + (if y = 1 then (1) else (if y = 3 then ((-1)) else (0)))) 0 11))) (As := [.int ((x - x / 12 * 12) + (if y = 1 then (1) else (if y = 3 then ((-1)) else (0)))), .int 0, .int 11]) (rest := []) (pc' := 56) i127_53 rfl rfl rfl rfl rfl m123 ?_
  refine e_reg (pc' := 79) (ls' := [some (.int x), some (.int y), some (.int ((x - x / 12 * 12) + (if y = 1 then (1) else (if y = 3 then ((-1)) else (0))))), some (.int ((x / 12) + (if y = 2 then (1) else (if y = 0 then ((-1)) else (0)))))]) (st' := [.int (if (x_in3 ((x - x / 12 * 12) + (if y = 1 then (1) else (if y = 3 then ((-1)) else (0)))) 0 11) = true then (if (x_in3 ((x / 12) + (if y = 2 then (1) else (if y = 0 then ((-1)) else (0)))) 0 11) = true then ((12 * ((x / 12) + (if y = 2 then (1) else (if y = 0 then ((-1)) else (0))))) + ((x - x / 12 * 12) + (if y = 1 then (1) else (if y = 3 then ((-1)) else (0))))) else ((-1))) else ((-1)))]) (fun kj17 => ?_) ?_
  · skip
    refine e_b0 (pc' := 59) i127_56 rfl (fun c18 => ?_) (fun c18 => ?_)
    · have d19 : ¬ ((x_in3 ((x - x / 12 * 12) + (if y = 1 then (1) else (if y = 3 then ((-1)) else (0)))) 0 11) = true) := (show ¬ (x_in3 ((x - x / 12 * 12) + (if y = 1 then (1) else (if y = 3 then ((-1)) else (0)))) 0 11) = true by rw [c18]; decide)
      refine e_cn (pc' := 79) i127_78 rfl ?_
      exact (by simp only [if_neg d19] at kj17 ⊢; exact kj17)
    · have d20 : (x_in3 ((x - x / 12 * 12) + (if y = 1 then (1) else (if y = 3 then ((-1)) else (0)))) 0 11) = true := c18
      refine e_ld (pc' := 60) i127_59 rfl rfl ?_
      refine e_cn (pc' := 61) i127_60 rfl ?_
      refine e_cn (pc' := 63) i127_61 rfl ?_
      refine e_cI (w := .int (b2i (x_in3 ((x / 12) + (if y = 2 then (1) else (if y = 0 then ((-1)) else (0)))) 0 11))) (As := [.int ((x / 12) + (if y = 2 then (1) else (if y = 0 then ((-1)) else (0)))), .int 0, .int 11]) (rest := []) (pc' := 66) i127_63 rfl rfl rfl rfl rfl m123 ?_
      refine e_reg (pc' := 79) (ls' := [some (.int x), some (.int y), some (.int ((x - x / 12 * 12) + (if y = 1 then (1) else (if y = 3 then ((-1)) else (0))))), some (.int ((x / 12) + (if y = 2 then (1) else (if y = 0 then ((-1)) else (0)))))]) (st' := [.int (if (x_in3 ((x / 12) + (if y = 2 then (1) else (if y = 0 then ((-1)) else (0)))) 0 11) = true then ((12 * ((x / 12) + (if y = 2 then (1) else (if y = 0 then ((-1)) else (0))))) + ((x - x / 12 * 12) + (if y = 1 then (1) else (if y = 3 then ((-1)) else (0))))) else ((-1)))]) (fun kj21 => ?_) ?_
      · skip
        refine e_b0 (pc' := 69) i127_66 rfl (fun c22 => ?_) (fun c22 => ?_)
        · have d23 : ¬ ((x_in3 ((x / 12) + (if y = 2 then (1) else (if y = 0 then ((-1)) else (0)))) 0 11) = true) := (show ¬ (x_in3 ((x / 12) + (if y = 2 then (1) else (if y = 0 then ((-1)) else (0)))) 0 11) = true by rw [c22]; decide)
          refine e_cn (pc' := 79) i127_78 rfl ?_
          exact (by simp only [if_neg d23] at kj21 ⊢; exact kj21)
        · have d24 : (x_in3 ((x / 12) + (if y = 2 then (1) else (if y = 0 then ((-1)) else (0)))) 0 11) = true := c22
          refine e_cn (pc' := 71) i127_69 rfl ?_
          refine e_ld (pc' := 72) i127_71 rfl rfl ?_
          refine e_ib (z := 12 * ((x / 12) + (if y = 2 then (1) else (if y = 0 then ((-1)) else (0))))) (pc' := 73) i127_72 rfl rfl ?_
          refine e_ld (pc' := 74) i127_73 rfl rfl ?_
          refine e_ib (z := (12 * ((x / 12) + (if y = 2 then (1) else (if y = 0 then ((-1)) else (0))))) + ((x - x / 12 * 12) + (if y = 1 then (1) else (if y = 3 then ((-1)) else (0))))) (pc' := 75) i127_74 rfl rfl ?_
          refine e_go i127_75 ?_
          exact (by simp only [if_pos d24] at kj21 ⊢; exact kj21)
      exact (by simp only [if_pos d20] at kj17 ⊢; exact kj17)
  refine e_rt i127_79 rfl ?_
  exact H
-- FloorTurnModel.many(I)I
set_option maxHeartbeats 8000000 in
set_option maxRecDepth 100000 in
theorem v131 {L : Nat} {xs : Nat → Int32} {Q : Option Value → Hp → Prop} {h : Hp} {x : Int32}  
  (H : Q (some (.int ((((x &&& 1) + ((x >>> ((1 : Int32) &&& 31)) &&& 1)) + ((x >>> ((2 : Int32) &&& 31)) &&& 1)) + ((x >>> ((3 : Int32) &&& 31)) &&& 1)))) h) : ∃ r h', Sp L xs 131 [.int x] h r h' ∧ Q r h' := by
  refine sp_ex (ls := [some (.int x)]) rfl ?_
  refine e_ld (pc' := 1) i131_0 rfl rfl ?_
  refine e_cn (pc' := 2) i131_1 rfl ?_
  refine e_ib (z := x &&& 1) (pc' := 3) i131_2 rfl rfl ?_
  refine e_ld (pc' := 4) i131_3 rfl rfl ?_
  refine e_cn (pc' := 5) i131_4 rfl ?_
  refine e_ib (z := x >>> ((1 : Int32) &&& 31)) (pc' := 6) i131_5 rfl rfl ?_
  refine e_cn (pc' := 7) i131_6 rfl ?_
  refine e_ib (z := (x >>> ((1 : Int32) &&& 31)) &&& 1) (pc' := 8) i131_7 rfl rfl ?_
  refine e_ib (z := (x &&& 1) + ((x >>> ((1 : Int32) &&& 31)) &&& 1)) (pc' := 9) i131_8 rfl rfl ?_
  refine e_ld (pc' := 10) i131_9 rfl rfl ?_
  refine e_cn (pc' := 11) i131_10 rfl ?_
  refine e_ib (z := x >>> ((2 : Int32) &&& 31)) (pc' := 12) i131_11 rfl rfl ?_
  refine e_cn (pc' := 13) i131_12 rfl ?_
  refine e_ib (z := (x >>> ((2 : Int32) &&& 31)) &&& 1) (pc' := 14) i131_13 rfl rfl ?_
  refine e_ib (z := ((x &&& 1) + ((x >>> ((1 : Int32) &&& 31)) &&& 1)) + ((x >>> ((2 : Int32) &&& 31)) &&& 1)) (pc' := 15) i131_14 rfl rfl ?_
  refine e_ld (pc' := 16) i131_15 rfl rfl ?_
  refine e_cn (pc' := 17) i131_16 rfl ?_
  refine e_ib (z := x >>> ((3 : Int32) &&& 31)) (pc' := 18) i131_17 rfl rfl ?_
  refine e_cn (pc' := 19) i131_18 rfl ?_
  refine e_ib (z := (x >>> ((3 : Int32) &&& 31)) &&& 1) (pc' := 20) i131_19 rfl rfl ?_
  refine e_ib (z := (((x &&& 1) + ((x >>> ((1 : Int32) &&& 31)) &&& 1)) + ((x >>> ((2 : Int32) &&& 31)) &&& 1)) + ((x >>> ((3 : Int32) &&& 31)) &&& 1)) (pc' := 21) i131_20 rfl rfl ?_
  refine e_rt i131_21 rfl ?_
  exact H
-- FloorTurnModel.lowest(IJ)J
set_option maxHeartbeats 8000000 in
set_option maxRecDepth 100000 in
theorem v138 {L : Nat} {xs : Nat → Int32} {Q : Option Value → Hp → Prop} {h : Hp} {x : Int32} {y : Int64}  
  (H : Q (some (.long (if x = 0 then (y.toInt32.toInt8.toInt32.toInt64) else (if x = 1 then (y.toInt32.toInt16.toInt32.toInt64) else (if x = 2 then (y.toInt32.toInt64) else (y)))))) h) : ∃ r h', Sp L xs 138 [.int x, .long y] h r h' ∧ Q r h' := by
  refine sp_ex (ls := [some (.int x), some (.long y), none]) rfl ?_
  refine e_ld (pc' := 1) i138_0 rfl rfl ?_
  refine e_reg (pc' := 35) (ls' := [some (.int x), some (.long y), none]) (st' := [.long (if x = 0 then (y.toInt32.toInt8.toInt32.toInt64) else (if x = 1 then (y.toInt32.toInt16.toInt32.toInt64) else (if x = 2 then (y.toInt32.toInt64) else (y))))]) (fun kj1 => ?_) ?_
  · skip
    refine e_if (pc' := 4) i138_1 rfl (fun c2 => ?_) (fun c2 => ?_)
    · have d3 : ¬ (x = 0) := (of_decide_eq_true c2)
      refine e_ld (pc' := 12) i138_11 rfl rfl ?_
      refine e_cn (pc' := 13) i138_12 rfl ?_
      refine e_reg (pc' := 35) (ls' := [some (.int x), some (.long y), none]) (st' := [.long (if x = 1 then (y.toInt32.toInt16.toInt32.toInt64) else (if x = 2 then (y.toInt32.toInt64) else (y)))]) (fun kj4 => ?_) ?_
      · skip
        refine e_ic (pc' := 16) i138_13 rfl (fun c5 => ?_) (fun c5 => ?_)
        · have d6 : ¬ (x = 1) := (of_decide_eq_true c5)
          refine e_ld (pc' := 24) i138_23 rfl rfl ?_
          refine e_cn (pc' := 25) i138_24 rfl ?_
          refine e_reg (pc' := 35) (ls' := [some (.int x), some (.long y), none]) (st' := [.long (if x = 2 then (y.toInt32.toInt64) else (y))]) (fun kj7 => ?_) ?_
          · skip
            refine e_ic (pc' := 28) i138_25 rfl (fun c8 => ?_) (fun c8 => ?_)
            · have d9 : ¬ (x = 2) := (of_decide_eq_true c8)
              refine e_ld (pc' := 35) i138_34 rfl rfl ?_
              exact (by simp only [if_neg d9] at kj7 ⊢; exact kj7)
            · have d10 : x = 2 := (Decidable.not_not.mp (of_decide_eq_false c8))
              refine e_ld (pc' := 29) i138_28 rfl rfl ?_
              refine e_un (pc' := 30) i138_29 rfl rfl ?_
              refine e_un (pc' := 31) i138_30 rfl rfl ?_
              refine e_go i138_31 ?_
              exact (by simp only [if_pos d10] at kj7 ⊢; exact kj7)
          exact (by simp only [if_neg d6] at kj4 ⊢; exact kj4)
        · have d11 : x = 1 := (Decidable.not_not.mp (of_decide_eq_false c5))
          refine e_ld (pc' := 17) i138_16 rfl rfl ?_
          refine e_un (pc' := 18) i138_17 rfl rfl ?_
          refine e_un (pc' := 19) i138_18 rfl rfl ?_
          refine e_un (pc' := 20) i138_19 rfl rfl ?_
          refine e_go i138_20 ?_
          exact (by simp only [if_pos d11] at kj4 ⊢; exact kj4)
      exact (by simp only [if_neg d3] at kj1 ⊢; exact kj1)
    · have d12 : x = 0 := (Decidable.not_not.mp (of_decide_eq_false c2))
      refine e_ld (pc' := 5) i138_4 rfl rfl ?_
      refine e_un (pc' := 6) i138_5 rfl rfl ?_
      refine e_un (pc' := 7) i138_6 rfl rfl ?_
      refine e_un (pc' := 8) i138_7 rfl rfl ?_
      refine e_go i138_8 ?_
      exact (by simp only [if_pos d12] at kj1 ⊢; exact kj1)
  refine e_rt i138_35 rfl ?_
  exact H
-- FloorTurnModel.turnedSide(III)I
set_option maxHeartbeats 8000000 in
set_option maxRecDepth 100000 in
theorem v150 {L : Nat} {xs : Nat → Int32} {Q : Option Value → Hp → Prop} {h : Hp} {x : Int32} {y : Int32} {z : Int32}  
  (H : ((x = 4) → (Q (some (.int (((y <<< ((z : Int32) &&& 31)) ||| (y >>> (((4 - z) : Int32) &&& 31))) &&& 15))) h)) ∧ (¬ (x = 4) → (Q (some (.int ((y + z) - (y + z) / 4 * 4))) h))) : ∃ r h', Sp L xs 150 [.int x, .int y, .int z] h r h' ∧ Q r h' := by
  refine sp_ex (ls := [some (.int x), some (.int y), some (.int z)]) rfl ?_
  refine e_ld (pc' := 1) i150_0 rfl rfl ?_
  refine e_cn (pc' := 2) i150_1 rfl ?_
  refine e_ic (pc' := 5) i150_2 rfl (fun c1 => ?_) (fun c1 => ?_)
  · have d2 : ¬ (x = 4) := (of_decide_eq_true c1)
    replace H := H.2 d2
    refine e_ld (pc' := 21) i150_20 rfl rfl ?_
    refine e_ld (pc' := 22) i150_21 rfl rfl ?_
    refine e_ib (z := y + z) (pc' := 23) i150_22 rfl rfl ?_
    refine e_cn (pc' := 24) i150_23 rfl ?_
    refine e_ib (z := (y + z) - (y + z) / 4 * 4) (pc' := 25) i150_24 rfl (x_ib_rem (by decide)) ?_
    refine e_rt i150_25 rfl ?_
    exact H
  · have d3 : x = 4 := (Decidable.not_not.mp (of_decide_eq_false c1))
    replace H := H.1 d3
    refine e_ld (pc' := 6) i150_5 rfl rfl ?_
    refine e_ld (pc' := 7) i150_6 rfl rfl ?_
    refine e_ib (z := y <<< ((z : Int32) &&& 31)) (pc' := 8) i150_7 rfl rfl ?_
    refine e_ld (pc' := 9) i150_8 rfl rfl ?_
    refine e_cn (pc' := 10) i150_9 rfl ?_
    refine e_ld (pc' := 11) i150_10 rfl rfl ?_
    refine e_ib (z := 4 - z) (pc' := 12) i150_11 rfl rfl ?_
    refine e_ib (z := y >>> (((4 - z) : Int32) &&& 31)) (pc' := 13) i150_12 rfl rfl ?_
    refine e_ib (z := (y <<< ((z : Int32) &&& 31)) ||| (y >>> (((4 - z) : Int32) &&& 31))) (pc' := 14) i150_13 rfl rfl ?_
    refine e_cn (pc' := 16) i150_14 rfl ?_
    refine e_ib (z := ((y <<< ((z : Int32) &&& 31)) ||| (y >>> (((4 - z) : Int32) &&& 31))) &&& 15) (pc' := 17) i150_16 rfl rfl ?_
    refine e_go i150_17 ?_
    refine e_rt i150_25 rfl ?_
    exact H
