/-! Rows of instructions. -/
set_option maxRecDepth 100000 in
theorem i1_0 : INS 1 0 = some (0, 1, 0, 2, .null, []) := rfl
set_option maxRecDepth 100000 in
theorem i1_1 : INS 1 1 = some (16, 3, 0, 1, .null, []) := rfl
set_option maxRecDepth 100000 in
theorem i1_4 : INS 1 4 = some (2, 2, 0, 0, .int 8, []) := rfl
set_option maxRecDepth 100000 in
theorem i1_6 : INS 1 6 = some (10, 3, 11, 2, .null, []) := rfl
set_option maxRecDepth 100000 in
theorem i1_9 : INS 1 9 = some (2, 1, 0, 0, .int (-1), []) := rfl
set_option maxRecDepth 100000 in
theorem i1_10 : INS 1 10 = some (27, 1, 0, 0, .null, []) := rfl
set_option maxRecDepth 100000 in
theorem i1_11 : INS 1 11 = some (0, 1, 0, 2, .null, []) := rfl
set_option maxRecDepth 100000 in
theorem i1_12 : INS 1 12 = some (16, 3, 0, 0, .null, []) := rfl
set_option maxRecDepth 100000 in
theorem i1_15 : INS 1 15 = some (0, 1, 0, 2, .null, []) := rfl
set_option maxRecDepth 100000 in
theorem i1_16 : INS 1 16 = some (16, 3, 0, 1, .null, []) := rfl
set_option maxRecDepth 100000 in
theorem i1_19 : INS 1 19 = some (0, 1, 1, 2, .null, []) := rfl
set_option maxRecDepth 100000 in
theorem i1_20 : INS 1 20 = some (19, 1, 23, 0, .null, []) := rfl
set_option maxRecDepth 100000 in
theorem i1_21 : INS 1 21 = some (0, 1, 0, 2, .null, []) := rfl
set_option maxRecDepth 100000 in
theorem i1_22 : INS 1 22 = some (8, 1, 0, 0, .null, []) := rfl
set_option maxRecDepth 100000 in
theorem i1_23 : INS 1 23 = some (16, 3, 0, 1, .null, []) := rfl
set_option maxRecDepth 100000 in
theorem i1_26 : INS 1 26 = some (2, 1, 0, 0, .int 1, []) := rfl
set_option maxRecDepth 100000 in
theorem i1_27 : INS 1 27 = some (3, 1, 0, 0, .null, []) := rfl
set_option maxRecDepth 100000 in
theorem i1_28 : INS 1 28 = some (17, 3, 0, 1, .null, []) := rfl
set_option maxRecDepth 100000 in
theorem i1_31 : INS 1 31 = some (0, 1, 0, 2, .null, []) := rfl
set_option maxRecDepth 100000 in
theorem i1_32 : INS 1 32 = some (16, 3, 0, 1, .null, []) := rfl
set_option maxRecDepth 100000 in
theorem i1_35 : INS 1 35 = some (2, 1, 0, 0, .int 1, []) := rfl
set_option maxRecDepth 100000 in
theorem i1_36 : INS 1 36 = some (3, 1, 1, 0, .null, []) := rfl
set_option maxRecDepth 100000 in
theorem i1_37 : INS 1 37 = some (27, 1, 0, 0, .null, []) := rfl
set_option maxRecDepth 100000 in
theorem i2_0 : INS 2 0 = some (0, 1, 1, 0, .null, []) := rfl
set_option maxRecDepth 100000 in
theorem i2_1 : INS 2 1 = some (9, 3, 21, 2, .null, []) := rfl
set_option maxRecDepth 100000 in
theorem i2_4 : INS 2 4 = some (0, 1, 1, 0, .null, []) := rfl
set_option maxRecDepth 100000 in
theorem i2_5 : INS 2 5 = some (0, 1, 0, 2, .null, []) := rfl
set_option maxRecDepth 100000 in
theorem i2_6 : INS 2 6 = some (16, 3, 0, 1, .null, []) := rfl
set_option maxRecDepth 100000 in
theorem i2_9 : INS 2 9 = some (10, 3, 21, 3, .null, []) := rfl
set_option maxRecDepth 100000 in
theorem i2_12 : INS 2 12 = some (0, 1, 0, 2, .null, []) := rfl
set_option maxRecDepth 100000 in
theorem i2_13 : INS 2 13 = some (16, 3, 0, 0, .null, []) := rfl
set_option maxRecDepth 100000 in
theorem i2_16 : INS 2 16 = some (0, 1, 1, 0, .null, []) := rfl
set_option maxRecDepth 100000 in
theorem i2_17 : INS 2 17 = some (18, 1, 23, 0, .null, []) := rfl
set_option maxRecDepth 100000 in
theorem i2_18 : INS 2 18 = some (12, 3, 22, 0, .null, []) := rfl
set_option maxRecDepth 100000 in
theorem i2_21 : INS 2 21 = some (2, 1, 0, 0, .null, []) := rfl
set_option maxRecDepth 100000 in
theorem i2_22 : INS 2 22 = some (27, 1, 2, 0, .null, []) := rfl
set_option maxRecDepth 100000 in
theorem i3_0 : INS 3 0 = some (2, 1, 0, 0, .int 0, []) := rfl
set_option maxRecDepth 100000 in
theorem i3_1 : INS 3 1 = some (1, 1, 2, 0, .null, []) := rfl
set_option maxRecDepth 100000 in
theorem i3_2 : INS 3 2 = some (0, 1, 2, 0, .null, []) := rfl
set_option maxRecDepth 100000 in
theorem i3_3 : INS 3 3 = some (0, 1, 0, 2, .null, []) := rfl
set_option maxRecDepth 100000 in
theorem i3_4 : INS 3 4 = some (16, 3, 0, 1, .null, []) := rfl
set_option maxRecDepth 100000 in
theorem i3_7 : INS 3 7 = some (10, 3, 31, 3, .null, []) := rfl
set_option maxRecDepth 100000 in
theorem i3_10 : INS 3 10 = some (0, 1, 0, 2, .null, []) := rfl
set_option maxRecDepth 100000 in
theorem i3_11 : INS 3 11 = some (16, 3, 0, 0, .null, []) := rfl
set_option maxRecDepth 100000 in
theorem i3_14 : INS 3 14 = some (0, 1, 2, 0, .null, []) := rfl
set_option maxRecDepth 100000 in
theorem i3_15 : INS 3 15 = some (18, 1, 23, 0, .null, []) := rfl
set_option maxRecDepth 100000 in
theorem i3_16 : INS 3 16 = some (16, 3, 6, 0, .null, []) := rfl
set_option maxRecDepth 100000 in
theorem i3_19 : INS 3 19 = some (0, 1, 1, 0, .null, []) := rfl
set_option maxRecDepth 100000 in
theorem i3_20 : INS 3 20 = some (10, 3, 25, 1, .null, []) := rfl
set_option maxRecDepth 100000 in
theorem i3_23 : INS 3 23 = some (0, 1, 2, 0, .null, []) := rfl
set_option maxRecDepth 100000 in
theorem i3_24 : INS 3 24 = some (27, 1, 0, 0, .null, []) := rfl
set_option maxRecDepth 100000 in
theorem i3_25 : INS 3 25 = some (15, 3, 2, 0, .int 1, []) := rfl
set_option maxRecDepth 100000 in
theorem i3_28 : INS 3 28 = some (12, 3, 2, 0, .null, []) := rfl
set_option maxRecDepth 100000 in
theorem i3_31 : INS 3 31 = some (2, 1, 0, 0, .int (-1), []) := rfl
set_option maxRecDepth 100000 in
theorem i3_32 : INS 3 32 = some (27, 1, 0, 0, .null, []) := rfl
set_option maxRecDepth 100000 in
theorem i5_0 : INS 5 0 = some (0, 1, 0, 2, .null, []) := rfl
set_option maxRecDepth 100000 in
theorem i5_1 : INS 5 1 = some (16, 3, 1, 0, .null, []) := rfl
set_option maxRecDepth 100000 in
theorem i5_4 : INS 5 4 = some (0, 1, 1, 2, .null, []) := rfl
set_option maxRecDepth 100000 in
theorem i5_5 : INS 5 5 = some (24, 3, 15, 0, .null, []) := rfl
set_option maxRecDepth 100000 in
theorem i5_8 : INS 5 8 = some (0, 1, 0, 2, .null, []) := rfl
set_option maxRecDepth 100000 in
theorem i5_9 : INS 5 9 = some (2, 1, 0, 0, .int 0, []) := rfl
set_option maxRecDepth 100000 in
theorem i5_10 : INS 5 10 = some (17, 3, 1, 5, .null, []) := rfl
set_option maxRecDepth 100000 in
theorem i5_13 : INS 5 13 = some (0, 1, 0, 2, .null, []) := rfl
set_option maxRecDepth 100000 in
theorem i5_14 : INS 5 14 = some (2, 1, 0, 0, .int 0, []) := rfl
set_option maxRecDepth 100000 in
theorem i5_15 : INS 5 15 = some (24, 3, 6, 0, .null, []) := rfl
set_option maxRecDepth 100000 in
theorem i5_18 : INS 5 18 = some (2, 1, 0, 0, .int 1, []) := rfl
set_option maxRecDepth 100000 in
theorem i5_19 : INS 5 19 = some (1, 1, 3, 0, .null, []) := rfl
set_option maxRecDepth 100000 in
theorem i5_20 : INS 5 20 = some (0, 1, 3, 0, .null, []) := rfl
set_option maxRecDepth 100000 in
theorem i5_21 : INS 5 21 = some (0, 1, 2, 0, .null, []) := rfl
set_option maxRecDepth 100000 in
theorem i5_22 : INS 5 22 = some (10, 3, 83, 4, .null, []) := rfl
set_option maxRecDepth 100000 in
theorem i5_25 : INS 5 25 = some (0, 1, 0, 2, .null, []) := rfl
set_option maxRecDepth 100000 in
theorem i5_26 : INS 5 26 = some (16, 3, 1, 5, .null, []) := rfl
set_option maxRecDepth 100000 in
theorem i5_29 : INS 5 29 = some (9, 3, 83, 1, .null, []) := rfl
set_option maxRecDepth 100000 in
theorem i5_32 : INS 5 32 = some (0, 1, 0, 2, .null, []) := rfl
set_option maxRecDepth 100000 in
theorem i5_33 : INS 5 33 = some (16, 3, 1, 0, .null, []) := rfl
set_option maxRecDepth 100000 in
theorem i5_36 : INS 5 36 = some (24, 3, 16, 0, .null, []) := rfl
set_option maxRecDepth 100000 in
theorem i5_39 : INS 5 39 = some (8, 1, 1, 0, .null, []) := rfl
set_option maxRecDepth 100000 in
theorem i5_40 : INS 5 40 = some (0, 1, 0, 2, .null, []) := rfl
set_option maxRecDepth 100000 in
theorem i5_41 : INS 5 41 = some (0, 1, 3, 0, .null, []) := rfl
set_option maxRecDepth 100000 in
theorem i5_42 : INS 5 42 = some (24, 3, 6, 0, .null, []) := rfl
set_option maxRecDepth 100000 in
theorem i5_45 : INS 5 45 = some (0, 1, 0, 2, .null, []) := rfl
set_option maxRecDepth 100000 in
theorem i5_46 : INS 5 46 = some (0, 1, 3, 0, .null, []) := rfl
set_option maxRecDepth 100000 in
theorem i5_47 : INS 5 47 = some (24, 3, 7, 0, .null, []) := rfl
set_option maxRecDepth 100000 in
theorem i5_50 : INS 5 50 = some (1, 2, 4, 0, .null, []) := rfl
set_option maxRecDepth 100000 in
theorem i5_52 : INS 5 52 = some (0, 2, 4, 0, .null, []) := rfl
set_option maxRecDepth 100000 in
theorem i5_54 : INS 5 54 = some (2, 1, 0, 0, .int (-1), []) := rfl
set_option maxRecDepth 100000 in
theorem i5_55 : INS 5 55 = some (10, 3, 77, 0, .null, []) := rfl
set_option maxRecDepth 100000 in
theorem i5_58 : INS 5 58 = some (0, 1, 0, 2, .null, []) := rfl
set_option maxRecDepth 100000 in
theorem i5_59 : INS 5 59 = some (2, 1, 0, 0, .int 1, []) := rfl
set_option maxRecDepth 100000 in
theorem i5_60 : INS 5 60 = some (17, 3, 1, 5, .null, []) := rfl
set_option maxRecDepth 100000 in
theorem i5_63 : INS 5 63 = some (0, 1, 0, 2, .null, []) := rfl
set_option maxRecDepth 100000 in
theorem i5_64 : INS 5 64 = some (0, 2, 4, 0, .null, []) := rfl
set_option maxRecDepth 100000 in
theorem i5_66 : INS 5 66 = some (17, 3, 1, 6, .null, []) := rfl
set_option maxRecDepth 100000 in
theorem i5_69 : INS 5 69 = some (0, 1, 0, 2, .null, []) := rfl
set_option maxRecDepth 100000 in
theorem i5_70 : INS 5 70 = some (0, 1, 3, 0, .null, []) := rfl
set_option maxRecDepth 100000 in
theorem i5_71 : INS 5 71 = some (0, 2, 4, 0, .null, []) := rfl
set_option maxRecDepth 100000 in
theorem i5_73 : INS 5 73 = some (3, 1, 1, 0, .null, []) := rfl
set_option maxRecDepth 100000 in
theorem i5_74 : INS 5 74 = some (17, 3, 1, 7, .null, []) := rfl
set_option maxRecDepth 100000 in
theorem i5_77 : INS 5 77 = some (15, 3, 3, 0, .int 1, []) := rfl
set_option maxRecDepth 100000 in
theorem i5_80 : INS 5 80 = some (12, 3, 20, 0, .null, []) := rfl
set_option maxRecDepth 100000 in
theorem i5_83 : INS 5 83 = some (0, 1, 0, 2, .null, []) := rfl
set_option maxRecDepth 100000 in
theorem i5_84 : INS 5 84 = some (16, 3, 1, 5, .null, []) := rfl
set_option maxRecDepth 100000 in
theorem i5_87 : INS 5 87 = some (27, 1, 0, 0, .null, []) := rfl
set_option maxRecDepth 100000 in
theorem i6_0 : INS 6 0 = some (2, 1, 0, 0, .long 0, []) := rfl
set_option maxRecDepth 100000 in
theorem i6_1 : INS 6 1 = some (1, 1, 2, 1, .null, []) := rfl
set_option maxRecDepth 100000 in
theorem i6_2 : INS 6 2 = some (2, 1, 0, 0, .int 0, []) := rfl
set_option maxRecDepth 100000 in
theorem i6_3 : INS 6 3 = some (1, 2, 4, 0, .null, []) := rfl
set_option maxRecDepth 100000 in
theorem i6_5 : INS 6 5 = some (0, 2, 4, 0, .null, []) := rfl
set_option maxRecDepth 100000 in
theorem i6_7 : INS 6 7 = some (2, 3, 0, 0, .int 144, []) := rfl
set_option maxRecDepth 100000 in
theorem i6_10 : INS 6 10 = some (10, 3, 58, 3, .null, []) := rfl
set_option maxRecDepth 100000 in
theorem i6_13 : INS 6 13 = some (0, 1, 0, 2, .null, []) := rfl
set_option maxRecDepth 100000 in
theorem i6_14 : INS 6 14 = some (16, 3, 1, 0, .null, []) := rfl
set_option maxRecDepth 100000 in
theorem i6_17 : INS 6 17 = some (16, 3, 2, 1, .null, []) := rfl
set_option maxRecDepth 100000 in
theorem i6_20 : INS 6 20 = some (0, 2, 4, 0, .null, []) := rfl
set_option maxRecDepth 100000 in
theorem i6_22 : INS 6 22 = some (18, 1, 23, 0, .null, []) := rfl
set_option maxRecDepth 100000 in
theorem i6_23 : INS 6 23 = some (24, 3, 40, 0, .null, []) := rfl
set_option maxRecDepth 100000 in
theorem i6_26 : INS 6 26 = some (1, 2, 5, 1, .null, []) := rfl
set_option maxRecDepth 100000 in
theorem i6_28 : INS 6 28 = some (0, 1, 0, 2, .null, []) := rfl
set_option maxRecDepth 100000 in
theorem i6_29 : INS 6 29 = some (16, 3, 1, 1, .null, []) := rfl
set_option maxRecDepth 100000 in
theorem i6_32 : INS 6 32 = some (0, 1, 1, 0, .null, []) := rfl
set_option maxRecDepth 100000 in
theorem i6_33 : INS 6 33 = some (2, 3, 0, 0, .int 144, []) := rfl
set_option maxRecDepth 100000 in
theorem i6_36 : INS 6 36 = some (3, 1, 2, 0, .null, []) := rfl
set_option maxRecDepth 100000 in
theorem i6_37 : INS 6 37 = some (0, 2, 4, 0, .null, []) := rfl
set_option maxRecDepth 100000 in
theorem i6_39 : INS 6 39 = some (3, 1, 0, 0, .null, []) := rfl
set_option maxRecDepth 100000 in
theorem i6_40 : INS 6 40 = some (0, 2, 5, 1, .null, []) := rfl
set_option maxRecDepth 100000 in
theorem i6_42 : INS 6 42 = some (19, 1, 21, 0, .null, []) := rfl
set_option maxRecDepth 100000 in
theorem i6_43 : INS 6 43 = some (0, 1, 2, 1, .null, []) := rfl
set_option maxRecDepth 100000 in
theorem i6_44 : INS 6 44 = some (2, 3, 1, 0, .long 1000003, []) := rfl
set_option maxRecDepth 100000 in
theorem i6_47 : INS 6 47 = some (4, 1, 2, 0, .null, []) := rfl
set_option maxRecDepth 100000 in
theorem i6_48 : INS 6 48 = some (0, 2, 5, 1, .null, []) := rfl
set_option maxRecDepth 100000 in
theorem i6_50 : INS 6 50 = some (4, 1, 0, 0, .null, []) := rfl
set_option maxRecDepth 100000 in
theorem i6_51 : INS 6 51 = some (1, 1, 2, 1, .null, []) := rfl
set_option maxRecDepth 100000 in
theorem i6_52 : INS 6 52 = some (15, 3, 4, 0, .int 1, []) := rfl
set_option maxRecDepth 100000 in
theorem i6_55 : INS 6 55 = some (12, 3, 5, 0, .null, []) := rfl
set_option maxRecDepth 100000 in
theorem i6_58 : INS 6 58 = some (0, 1, 0, 2, .null, []) := rfl
set_option maxRecDepth 100000 in
theorem i6_59 : INS 6 59 = some (16, 3, 1, 2, .null, []) := rfl
set_option maxRecDepth 100000 in
theorem i6_62 : INS 6 62 = some (0, 1, 1, 0, .null, []) := rfl
set_option maxRecDepth 100000 in
theorem i6_63 : INS 6 63 = some (0, 1, 2, 1, .null, []) := rfl
set_option maxRecDepth 100000 in
theorem i6_64 : INS 6 64 = some (19, 1, 21, 0, .null, []) := rfl
set_option maxRecDepth 100000 in
theorem i6_65 : INS 6 65 = some (27, 1, 3, 0, .null, []) := rfl
set_option maxRecDepth 100000 in
theorem i7_0 : INS 7 0 = some (2, 1, 0, 0, .int 0, []) := rfl
set_option maxRecDepth 100000 in
theorem i7_1 : INS 7 1 = some (1, 1, 2, 0, .null, []) := rfl
set_option maxRecDepth 100000 in
theorem i7_2 : INS 7 2 = some (0, 1, 2, 0, .null, []) := rfl
set_option maxRecDepth 100000 in
theorem i7_3 : INS 7 3 = some (0, 1, 1, 0, .null, []) := rfl
set_option maxRecDepth 100000 in
theorem i7_4 : INS 7 4 = some (10, 3, 40, 3, .null, []) := rfl
set_option maxRecDepth 100000 in
theorem i7_7 : INS 7 7 = some (0, 1, 0, 2, .null, []) := rfl
set_option maxRecDepth 100000 in
theorem i7_8 : INS 7 8 = some (16, 3, 1, 2, .null, []) := rfl
set_option maxRecDepth 100000 in
theorem i7_11 : INS 7 11 = some (0, 1, 2, 0, .null, []) := rfl
set_option maxRecDepth 100000 in
theorem i7_12 : INS 7 12 = some (18, 1, 21, 0, .null, []) := rfl
set_option maxRecDepth 100000 in
theorem i7_13 : INS 7 13 = some (0, 1, 0, 2, .null, []) := rfl
set_option maxRecDepth 100000 in
theorem i7_14 : INS 7 14 = some (16, 3, 1, 2, .null, []) := rfl
set_option maxRecDepth 100000 in
theorem i7_17 : INS 7 17 = some (0, 1, 1, 0, .null, []) := rfl
set_option maxRecDepth 100000 in
theorem i7_18 : INS 7 18 = some (18, 1, 21, 0, .null, []) := rfl
set_option maxRecDepth 100000 in
theorem i7_19 : INS 7 19 = some (7, 1, 0, 0, .null, []) := rfl
set_option maxRecDepth 100000 in
theorem i7_20 : INS 7 20 = some (9, 3, 34, 1, .null, []) := rfl
set_option maxRecDepth 100000 in
theorem i7_23 : INS 7 23 = some (0, 1, 0, 2, .null, []) := rfl
set_option maxRecDepth 100000 in
theorem i7_24 : INS 7 24 = some (0, 1, 2, 0, .null, []) := rfl
set_option maxRecDepth 100000 in
theorem i7_25 : INS 7 25 = some (0, 1, 1, 0, .null, []) := rfl
set_option maxRecDepth 100000 in
theorem i7_26 : INS 7 26 = some (24, 3, 8, 0, .null, []) := rfl
set_option maxRecDepth 100000 in
theorem i7_29 : INS 7 29 = some (9, 3, 34, 0, .null, []) := rfl
set_option maxRecDepth 100000 in
theorem i7_32 : INS 7 32 = some (0, 1, 2, 0, .null, []) := rfl
set_option maxRecDepth 100000 in
theorem i7_33 : INS 7 33 = some (27, 1, 0, 0, .null, []) := rfl
set_option maxRecDepth 100000 in
theorem i7_34 : INS 7 34 = some (15, 3, 2, 0, .int 1, []) := rfl
set_option maxRecDepth 100000 in
theorem i7_37 : INS 7 37 = some (12, 3, 2, 0, .null, []) := rfl
set_option maxRecDepth 100000 in
theorem i7_40 : INS 7 40 = some (2, 1, 0, 0, .int (-1), []) := rfl
set_option maxRecDepth 100000 in
theorem i7_41 : INS 7 41 = some (27, 1, 0, 0, .null, []) := rfl
set_option maxRecDepth 100000 in
theorem i8_0 : INS 8 0 = some (2, 1, 0, 0, .int 0, []) := rfl
set_option maxRecDepth 100000 in
theorem i8_1 : INS 8 1 = some (1, 1, 3, 0, .null, []) := rfl
set_option maxRecDepth 100000 in
theorem i8_2 : INS 8 2 = some (0, 1, 3, 0, .null, []) := rfl
set_option maxRecDepth 100000 in
theorem i8_3 : INS 8 3 = some (2, 3, 0, 0, .int 144, []) := rfl
set_option maxRecDepth 100000 in
theorem i8_6 : INS 8 6 = some (10, 3, 45, 3, .null, []) := rfl
set_option maxRecDepth 100000 in
theorem i8_9 : INS 8 9 = some (0, 1, 0, 2, .null, []) := rfl
set_option maxRecDepth 100000 in
theorem i8_10 : INS 8 10 = some (16, 3, 1, 1, .null, []) := rfl
set_option maxRecDepth 100000 in
theorem i8_13 : INS 8 13 = some (0, 1, 1, 0, .null, []) := rfl
set_option maxRecDepth 100000 in
theorem i8_14 : INS 8 14 = some (2, 3, 0, 0, .int 144, []) := rfl
set_option maxRecDepth 100000 in
theorem i8_17 : INS 8 17 = some (3, 1, 2, 0, .null, []) := rfl
set_option maxRecDepth 100000 in
theorem i8_18 : INS 8 18 = some (0, 1, 3, 0, .null, []) := rfl
set_option maxRecDepth 100000 in
theorem i8_19 : INS 8 19 = some (3, 1, 0, 0, .null, []) := rfl
set_option maxRecDepth 100000 in
theorem i8_20 : INS 8 20 = some (18, 1, 21, 0, .null, []) := rfl
set_option maxRecDepth 100000 in
theorem i8_21 : INS 8 21 = some (0, 1, 0, 2, .null, []) := rfl
set_option maxRecDepth 100000 in
theorem i8_22 : INS 8 22 = some (16, 3, 1, 1, .null, []) := rfl
set_option maxRecDepth 100000 in
theorem i8_25 : INS 8 25 = some (0, 1, 2, 0, .null, []) := rfl
set_option maxRecDepth 100000 in
theorem i8_26 : INS 8 26 = some (2, 3, 0, 0, .int 144, []) := rfl
set_option maxRecDepth 100000 in
theorem i8_29 : INS 8 29 = some (3, 1, 2, 0, .null, []) := rfl
set_option maxRecDepth 100000 in
theorem i8_30 : INS 8 30 = some (0, 1, 3, 0, .null, []) := rfl
set_option maxRecDepth 100000 in
theorem i8_31 : INS 8 31 = some (3, 1, 0, 0, .null, []) := rfl
set_option maxRecDepth 100000 in
theorem i8_32 : INS 8 32 = some (18, 1, 21, 0, .null, []) := rfl
set_option maxRecDepth 100000 in
theorem i8_33 : INS 8 33 = some (7, 1, 0, 0, .null, []) := rfl
set_option maxRecDepth 100000 in
theorem i8_34 : INS 8 34 = some (9, 3, 39, 0, .null, []) := rfl
set_option maxRecDepth 100000 in
theorem i8_37 : INS 8 37 = some (2, 1, 0, 0, .int 0, []) := rfl
set_option maxRecDepth 100000 in
theorem i8_38 : INS 8 38 = some (27, 1, 0, 0, .null, []) := rfl
set_option maxRecDepth 100000 in
theorem i8_39 : INS 8 39 = some (15, 3, 3, 0, .int 1, []) := rfl
set_option maxRecDepth 100000 in
theorem i8_42 : INS 8 42 = some (12, 3, 2, 0, .null, []) := rfl
set_option maxRecDepth 100000 in
theorem i8_45 : INS 8 45 = some (2, 1, 0, 0, .int 1, []) := rfl
set_option maxRecDepth 100000 in
theorem i8_46 : INS 8 46 = some (27, 1, 0, 0, .null, []) := rfl
set_option maxRecDepth 100000 in
theorem i9_0 : INS 9 0 = some (0, 1, 0, 2, .null, []) := rfl
set_option maxRecDepth 100000 in
theorem i9_1 : INS 9 1 = some (2, 1, 0, 0, .int 0, []) := rfl
set_option maxRecDepth 100000 in
theorem i9_2 : INS 9 2 = some (17, 3, 1, 8, .null, []) := rfl
set_option maxRecDepth 100000 in
theorem i9_5 : INS 9 5 = some (0, 1, 0, 2, .null, []) := rfl
set_option maxRecDepth 100000 in
theorem i9_6 : INS 9 6 = some (2, 1, 0, 0, .int 0, []) := rfl
set_option maxRecDepth 100000 in
theorem i9_7 : INS 9 7 = some (17, 3, 1, 9, .null, []) := rfl
set_option maxRecDepth 100000 in
theorem i9_10 : INS 9 10 = some (0, 1, 0, 2, .null, []) := rfl
set_option maxRecDepth 100000 in
theorem i9_11 : INS 9 11 = some (2, 1, 0, 0, .int 1, []) := rfl
set_option maxRecDepth 100000 in
theorem i9_12 : INS 9 12 = some (17, 3, 1, 10, .null, []) := rfl
set_option maxRecDepth 100000 in
theorem i9_15 : INS 9 15 = some (2, 1, 0, 0, .int 0, []) := rfl
set_option maxRecDepth 100000 in
theorem i9_16 : INS 9 16 = some (1, 1, 1, 0, .null, []) := rfl
set_option maxRecDepth 100000 in
theorem i9_17 : INS 9 17 = some (0, 1, 1, 0, .null, []) := rfl
set_option maxRecDepth 100000 in
theorem i9_18 : INS 9 18 = some (2, 3, 0, 0, .int 144, []) := rfl
set_option maxRecDepth 100000 in
theorem i9_21 : INS 9 21 = some (10, 3, 77, 3, .null, []) := rfl
set_option maxRecDepth 100000 in
theorem i9_24 : INS 9 24 = some (0, 1, 0, 2, .null, []) := rfl
set_option maxRecDepth 100000 in
theorem i9_25 : INS 9 25 = some (16, 3, 1, 0, .null, []) := rfl
set_option maxRecDepth 100000 in
theorem i9_28 : INS 9 28 = some (16, 3, 2, 1, .null, []) := rfl
set_option maxRecDepth 100000 in
theorem i9_31 : INS 9 31 = some (0, 1, 1, 0, .null, []) := rfl
set_option maxRecDepth 100000 in
theorem i9_32 : INS 9 32 = some (18, 1, 23, 0, .null, []) := rfl
set_option maxRecDepth 100000 in
theorem i9_33 : INS 9 33 = some (24, 3, 27, 0, .null, []) := rfl
set_option maxRecDepth 100000 in
theorem i9_36 : INS 9 36 = some (0, 1, 0, 2, .null, []) := rfl
set_option maxRecDepth 100000 in
theorem i9_37 : INS 9 37 = some (16, 3, 1, 3, .null, []) := rfl
set_option maxRecDepth 100000 in
theorem i9_40 : INS 9 40 = some (0, 1, 1, 0, .null, []) := rfl
set_option maxRecDepth 100000 in
theorem i9_41 : INS 9 41 = some (2, 1, 0, 0, .int 1, []) := rfl
set_option maxRecDepth 100000 in
theorem i9_42 : INS 9 42 = some (19, 1, 22, 0, .null, []) := rfl
set_option maxRecDepth 100000 in
theorem i9_43 : INS 9 43 = some (0, 1, 0, 2, .null, []) := rfl
set_option maxRecDepth 100000 in
theorem i9_44 : INS 9 44 = some (16, 3, 1, 4, .null, []) := rfl
set_option maxRecDepth 100000 in
theorem i9_47 : INS 9 47 = some (0, 1, 1, 0, .null, []) := rfl
set_option maxRecDepth 100000 in
theorem i9_48 : INS 9 48 = some (0, 1, 0, 2, .null, []) := rfl
set_option maxRecDepth 100000 in
theorem i9_49 : INS 9 49 = some (16, 3, 1, 0, .null, []) := rfl
set_option maxRecDepth 100000 in
theorem i9_52 : INS 9 52 = some (16, 3, 2, 1, .null, []) := rfl
set_option maxRecDepth 100000 in
theorem i9_55 : INS 9 55 = some (0, 1, 1, 0, .null, []) := rfl
set_option maxRecDepth 100000 in
theorem i9_56 : INS 9 56 = some (18, 1, 23, 0, .null, []) := rfl
set_option maxRecDepth 100000 in
theorem i9_57 : INS 9 57 = some (16, 3, 3, 0, .null, []) := rfl
set_option maxRecDepth 100000 in
theorem i9_60 : INS 9 60 = some (2, 2, 0, 0, .int 6, []) := rfl
set_option maxRecDepth 100000 in
theorem i9_62 : INS 9 62 = some (10, 3, 69, 1, .null, []) := rfl
set_option maxRecDepth 100000 in
theorem i9_65 : INS 9 65 = some (2, 1, 0, 0, .int 1, []) := rfl
set_option maxRecDepth 100000 in
theorem i9_66 : INS 9 66 = some (12, 3, 70, 0, .null, []) := rfl
set_option maxRecDepth 100000 in
theorem i9_69 : INS 9 69 = some (2, 1, 0, 0, .int 0, []) := rfl
set_option maxRecDepth 100000 in
theorem i9_70 : INS 9 70 = some (19, 1, 22, 0, .null, []) := rfl
set_option maxRecDepth 100000 in
theorem i9_71 : INS 9 71 = some (15, 3, 1, 0, .int 1, []) := rfl
set_option maxRecDepth 100000 in
theorem i9_74 : INS 9 74 = some (12, 3, 17, 0, .null, []) := rfl
set_option maxRecDepth 100000 in
theorem i9_77 : INS 9 77 = some (2, 1, 0, 0, .int 0, []) := rfl
set_option maxRecDepth 100000 in
theorem i9_78 : INS 9 78 = some (1, 1, 1, 0, .null, []) := rfl
set_option maxRecDepth 100000 in
theorem i9_79 : INS 9 79 = some (0, 1, 1, 0, .null, []) := rfl
set_option maxRecDepth 100000 in
theorem i9_80 : INS 9 80 = some (0, 1, 0, 2, .null, []) := rfl
set_option maxRecDepth 100000 in
theorem i9_81 : INS 9 81 = some (16, 3, 1, 7, .null, []) := rfl
set_option maxRecDepth 100000 in
theorem i9_84 : INS 9 84 = some (10, 3, 113, 3, .null, []) := rfl
set_option maxRecDepth 100000 in
theorem i9_87 : INS 9 87 = some (0, 1, 0, 2, .null, []) := rfl
set_option maxRecDepth 100000 in
theorem i9_88 : INS 9 88 = some (8, 1, 0, 0, .null, []) := rfl
set_option maxRecDepth 100000 in
theorem i9_89 : INS 9 89 = some (16, 3, 1, 8, .null, []) := rfl
set_option maxRecDepth 100000 in
theorem i9_92 : INS 9 92 = some (0, 1, 0, 2, .null, []) := rfl
set_option maxRecDepth 100000 in
theorem i9_93 : INS 9 93 = some (16, 3, 1, 0, .null, []) := rfl
set_option maxRecDepth 100000 in
theorem i9_96 : INS 9 96 = some (24, 3, 16, 0, .null, []) := rfl
set_option maxRecDepth 100000 in
theorem i9_99 : INS 9 99 = some (3, 1, 0, 0, .null, []) := rfl
set_option maxRecDepth 100000 in
theorem i9_100 : INS 9 100 = some (17, 3, 1, 8, .null, []) := rfl
set_option maxRecDepth 100000 in
theorem i9_103 : INS 9 103 = some (0, 1, 0, 2, .null, []) := rfl
set_option maxRecDepth 100000 in
theorem i9_104 : INS 9 104 = some (24, 3, 10, 0, .null, []) := rfl
set_option maxRecDepth 100000 in
theorem i9_107 : INS 9 107 = some (15, 3, 1, 0, .int 1, []) := rfl
set_option maxRecDepth 100000 in
theorem i9_110 : INS 9 110 = some (12, 3, 79, 0, .null, []) := rfl
set_option maxRecDepth 100000 in
theorem i9_113 : INS 9 113 = some (2, 1, 0, 0, .int 0, []) := rfl
set_option maxRecDepth 100000 in
theorem i9_114 : INS 9 114 = some (1, 1, 1, 0, .null, []) := rfl
set_option maxRecDepth 100000 in
theorem i9_115 : INS 9 115 = some (0, 1, 1, 0, .null, []) := rfl
set_option maxRecDepth 100000 in
theorem i9_116 : INS 9 116 = some (2, 3, 0, 0, .int 144, []) := rfl
set_option maxRecDepth 100000 in
theorem i9_119 : INS 9 119 = some (10, 3, 155, 3, .null, []) := rfl
set_option maxRecDepth 100000 in
theorem i9_122 : INS 9 122 = some (0, 1, 0, 2, .null, []) := rfl
set_option maxRecDepth 100000 in
theorem i9_123 : INS 9 123 = some (16, 3, 1, 0, .null, []) := rfl
set_option maxRecDepth 100000 in
theorem i9_126 : INS 9 126 = some (16, 3, 2, 1, .null, []) := rfl
set_option maxRecDepth 100000 in
theorem i9_129 : INS 9 129 = some (0, 1, 1, 0, .null, []) := rfl
set_option maxRecDepth 100000 in
theorem i9_130 : INS 9 130 = some (18, 1, 23, 0, .null, []) := rfl
set_option maxRecDepth 100000 in
theorem i9_131 : INS 9 131 = some (16, 3, 3, 15, .null, []) := rfl
set_option maxRecDepth 100000 in
theorem i9_134 : INS 9 134 = some (9, 3, 149, 5, .null, []) := rfl
set_option maxRecDepth 100000 in
theorem i9_137 : INS 9 137 = some (0, 1, 0, 2, .null, []) := rfl
set_option maxRecDepth 100000 in
theorem i9_138 : INS 9 138 = some (16, 3, 1, 3, .null, []) := rfl
set_option maxRecDepth 100000 in
theorem i9_141 : INS 9 141 = some (0, 1, 1, 0, .null, []) := rfl
set_option maxRecDepth 100000 in
theorem i9_142 : INS 9 142 = some (2, 1, 0, 0, .int 0, []) := rfl
set_option maxRecDepth 100000 in
theorem i9_143 : INS 9 143 = some (19, 1, 22, 0, .null, []) := rfl
set_option maxRecDepth 100000 in
theorem i9_144 : INS 9 144 = some (0, 1, 0, 2, .null, []) := rfl
set_option maxRecDepth 100000 in
theorem i9_145 : INS 9 145 = some (2, 1, 0, 0, .int 0, []) := rfl
set_option maxRecDepth 100000 in
theorem i9_146 : INS 9 146 = some (17, 3, 1, 10, .null, []) := rfl
set_option maxRecDepth 100000 in
theorem i9_149 : INS 9 149 = some (15, 3, 1, 0, .int 1, []) := rfl
set_option maxRecDepth 100000 in
theorem i9_152 : INS 9 152 = some (12, 3, 115, 0, .null, []) := rfl
set_option maxRecDepth 100000 in
theorem i9_155 : INS 9 155 = some (27, 1, 3, 0, .null, []) := rfl
set_option maxRecDepth 100000 in
theorem i10_0 : INS 10 0 = some (2, 1, 0, 0, .int 0, []) := rfl
set_option maxRecDepth 100000 in
theorem i10_1 : INS 10 1 = some (1, 1, 1, 0, .null, []) := rfl
set_option maxRecDepth 100000 in
theorem i10_2 : INS 10 2 = some (2, 1, 0, 0, .int 0, []) := rfl
set_option maxRecDepth 100000 in
theorem i10_3 : INS 10 3 = some (1, 1, 2, 0, .null, []) := rfl
set_option maxRecDepth 100000 in
theorem i10_4 : INS 10 4 = some (0, 1, 2, 0, .null, []) := rfl
set_option maxRecDepth 100000 in
theorem i10_5 : INS 10 5 = some (2, 3, 0, 0, .int 144, []) := rfl
set_option maxRecDepth 100000 in
theorem i10_8 : INS 10 8 = some (10, 3, 98, 3, .null, []) := rfl
set_option maxRecDepth 100000 in
theorem i10_11 : INS 10 11 = some (0, 1, 0, 2, .null, []) := rfl
set_option maxRecDepth 100000 in
theorem i10_12 : INS 10 12 = some (16, 3, 1, 0, .null, []) := rfl
set_option maxRecDepth 100000 in
theorem i10_15 : INS 10 15 = some (16, 3, 2, 1, .null, []) := rfl
set_option maxRecDepth 100000 in
theorem i10_18 : INS 10 18 = some (0, 1, 2, 0, .null, []) := rfl
set_option maxRecDepth 100000 in
theorem i10_19 : INS 10 19 = some (18, 1, 23, 0, .null, []) := rfl
set_option maxRecDepth 100000 in
theorem i10_20 : INS 10 20 = some (1, 1, 3, 2, .null, []) := rfl
set_option maxRecDepth 100000 in
theorem i10_21 : INS 10 21 = some (0, 1, 3, 2, .null, []) := rfl
set_option maxRecDepth 100000 in
theorem i10_22 : INS 10 22 = some (24, 3, 34, 0, .null, []) := rfl
set_option maxRecDepth 100000 in
theorem i10_25 : INS 10 25 = some (9, 3, 35, 1, .null, []) := rfl
set_option maxRecDepth 100000 in
theorem i10_28 : INS 10 28 = some (0, 1, 0, 2, .null, []) := rfl
set_option maxRecDepth 100000 in
theorem i10_29 : INS 10 29 = some (16, 3, 1, 3, .null, []) := rfl
set_option maxRecDepth 100000 in
theorem i10_32 : INS 10 32 = some (0, 1, 2, 0, .null, []) := rfl
set_option maxRecDepth 100000 in
theorem i10_33 : INS 10 33 = some (2, 1, 0, 0, .int 0, []) := rfl
set_option maxRecDepth 100000 in
theorem i10_34 : INS 10 34 = some (19, 1, 22, 0, .null, []) := rfl
set_option maxRecDepth 100000 in
theorem i10_35 : INS 10 35 = some (0, 1, 3, 2, .null, []) := rfl
set_option maxRecDepth 100000 in
theorem i10_36 : INS 10 36 = some (16, 3, 3, 4, .null, []) := rfl
set_option maxRecDepth 100000 in
theorem i10_39 : INS 10 39 = some (11, 3, 92, 0, .null, []) := rfl
set_option maxRecDepth 100000 in
theorem i10_42 : INS 10 42 = some (0, 1, 3, 2, .null, []) := rfl
set_option maxRecDepth 100000 in
theorem i10_43 : INS 10 43 = some (16, 3, 3, 11, .null, []) := rfl
set_option maxRecDepth 100000 in
theorem i10_46 : INS 10 46 = some (9, 3, 64, 0, .null, []) := rfl
set_option maxRecDepth 100000 in
theorem i10_49 : INS 10 49 = some (0, 1, 1, 0, .null, []) := rfl
set_option maxRecDepth 100000 in
theorem i10_50 : INS 10 50 = some (0, 1, 3, 2, .null, []) := rfl
set_option maxRecDepth 100000 in
theorem i10_51 : INS 10 51 = some (16, 3, 3, 4, .null, []) := rfl
set_option maxRecDepth 100000 in
theorem i10_54 : INS 10 54 = some (16, 3, 6, 3, .null, []) := rfl
set_option maxRecDepth 100000 in
theorem i10_57 : INS 10 57 = some (3, 1, 0, 0, .null, []) := rfl
set_option maxRecDepth 100000 in
theorem i10_58 : INS 10 58 = some (1, 1, 1, 0, .null, []) := rfl
set_option maxRecDepth 100000 in
theorem i10_59 : INS 10 59 = some (0, 1, 0, 2, .null, []) := rfl
set_option maxRecDepth 100000 in
theorem i10_60 : INS 10 60 = some (2, 1, 0, 0, .int 0, []) := rfl
set_option maxRecDepth 100000 in
theorem i10_61 : INS 10 61 = some (17, 3, 1, 10, .null, []) := rfl
set_option maxRecDepth 100000 in
theorem i10_64 : INS 10 64 = some (0, 1, 3, 2, .null, []) := rfl
set_option maxRecDepth 100000 in
theorem i10_65 : INS 10 65 = some (16, 3, 3, 11, .null, []) := rfl
set_option maxRecDepth 100000 in
theorem i10_68 : INS 10 68 = some (9, 3, 85, 1, .null, []) := rfl
set_option maxRecDepth 100000 in
theorem i10_71 : INS 10 71 = some (0, 1, 3, 2, .null, []) := rfl
set_option maxRecDepth 100000 in
theorem i10_72 : INS 10 72 = some (16, 3, 3, 9, .null, []) := rfl
set_option maxRecDepth 100000 in
theorem i10_75 : INS 10 75 = some (0, 1, 3, 2, .null, []) := rfl
set_option maxRecDepth 100000 in
theorem i10_76 : INS 10 76 = some (16, 3, 3, 4, .null, []) := rfl
set_option maxRecDepth 100000 in
theorem i10_79 : INS 10 79 = some (16, 3, 6, 1, .null, []) := rfl
set_option maxRecDepth 100000 in
theorem i10_82 : INS 10 82 = some (10, 3, 92, 5, .null, []) := rfl
set_option maxRecDepth 100000 in
theorem i10_85 : INS 10 85 = some (0, 1, 0, 2, .null, []) := rfl
set_option maxRecDepth 100000 in
theorem i10_86 : INS 10 86 = some (16, 3, 1, 4, .null, []) := rfl
set_option maxRecDepth 100000 in
theorem i10_89 : INS 10 89 = some (0, 1, 2, 0, .null, []) := rfl
set_option maxRecDepth 100000 in
theorem i10_90 : INS 10 90 = some (2, 1, 0, 0, .int 0, []) := rfl
set_option maxRecDepth 100000 in
theorem i10_91 : INS 10 91 = some (19, 1, 22, 0, .null, []) := rfl
set_option maxRecDepth 100000 in
theorem i10_92 : INS 10 92 = some (15, 3, 2, 0, .int 1, []) := rfl
set_option maxRecDepth 100000 in
theorem i10_95 : INS 10 95 = some (12, 3, 4, 0, .null, []) := rfl
set_option maxRecDepth 100000 in
theorem i10_98 : INS 10 98 = some (0, 1, 0, 2, .null, []) := rfl
set_option maxRecDepth 100000 in
theorem i10_99 : INS 10 99 = some (0, 1, 0, 2, .null, []) := rfl
set_option maxRecDepth 100000 in
theorem i10_100 : INS 10 100 = some (16, 3, 1, 9, .null, []) := rfl
set_option maxRecDepth 100000 in
theorem i10_103 : INS 10 103 = some (0, 1, 1, 0, .null, []) := rfl
set_option maxRecDepth 100000 in
theorem i10_104 : INS 10 104 = some (24, 3, 196, 2, .null, []) := rfl
set_option maxRecDepth 100000 in
theorem i10_107 : INS 10 107 = some (17, 3, 1, 9, .null, []) := rfl
set_option maxRecDepth 100000 in
theorem i10_110 : INS 10 110 = some (27, 1, 3, 0, .null, []) := rfl
set_option maxRecDepth 100000 in
theorem i11_0 : INS 11 0 = some (0, 1, 0, 2, .null, []) := rfl
set_option maxRecDepth 100000 in
theorem i11_1 : INS 11 1 = some (16, 3, 1, 5, .null, []) := rfl
set_option maxRecDepth 100000 in
theorem i11_4 : INS 11 4 = some (9, 3, 9, 1, .null, []) := rfl
set_option maxRecDepth 100000 in
theorem i11_7 : INS 11 7 = some (2, 1, 0, 0, .int (-1), []) := rfl
set_option maxRecDepth 100000 in
theorem i11_8 : INS 11 8 = some (27, 1, 0, 0, .null, []) := rfl
set_option maxRecDepth 100000 in
theorem i11_9 : INS 11 9 = some (0, 1, 1, 0, .null, []) := rfl
set_option maxRecDepth 100000 in
theorem i11_10 : INS 11 10 = some (13, 34, 77, 0, .null, [44, 49, 54, 59, 64]) := rfl
set_option maxRecDepth 100000 in
theorem i11_44 : INS 11 44 = some (0, 1, 0, 2, .null, []) := rfl
set_option maxRecDepth 100000 in
theorem i11_45 : INS 11 45 = some (16, 3, 1, 6, .null, []) := rfl
set_option maxRecDepth 100000 in
theorem i11_48 : INS 11 48 = some (27, 1, 0, 0, .null, []) := rfl
set_option maxRecDepth 100000 in
theorem i11_49 : INS 11 49 = some (0, 1, 0, 2, .null, []) := rfl
set_option maxRecDepth 100000 in
theorem i11_50 : INS 11 50 = some (16, 3, 1, 7, .null, []) := rfl
set_option maxRecDepth 100000 in
theorem i11_53 : INS 11 53 = some (27, 1, 0, 0, .null, []) := rfl
set_option maxRecDepth 100000 in
theorem i11_54 : INS 11 54 = some (0, 1, 0, 2, .null, []) := rfl
set_option maxRecDepth 100000 in
theorem i11_55 : INS 11 55 = some (16, 3, 1, 8, .null, []) := rfl
set_option maxRecDepth 100000 in
theorem i11_58 : INS 11 58 = some (27, 1, 0, 0, .null, []) := rfl
set_option maxRecDepth 100000 in
theorem i11_59 : INS 11 59 = some (0, 1, 0, 2, .null, []) := rfl
set_option maxRecDepth 100000 in
theorem i11_60 : INS 11 60 = some (16, 3, 1, 9, .null, []) := rfl
set_option maxRecDepth 100000 in
theorem i11_63 : INS 11 63 = some (27, 1, 0, 0, .null, []) := rfl
set_option maxRecDepth 100000 in
theorem i11_64 : INS 11 64 = some (0, 1, 0, 2, .null, []) := rfl
set_option maxRecDepth 100000 in
theorem i11_65 : INS 11 65 = some (16, 3, 1, 10, .null, []) := rfl
set_option maxRecDepth 100000 in
theorem i11_68 : INS 11 68 = some (9, 3, 75, 0, .null, []) := rfl
set_option maxRecDepth 100000 in
theorem i11_71 : INS 11 71 = some (2, 1, 0, 0, .int 1, []) := rfl
set_option maxRecDepth 100000 in
theorem i11_72 : INS 11 72 = some (12, 3, 76, 0, .null, []) := rfl
set_option maxRecDepth 100000 in
theorem i11_75 : INS 11 75 = some (2, 1, 0, 0, .int 0, []) := rfl
set_option maxRecDepth 100000 in
theorem i11_76 : INS 11 76 = some (27, 1, 0, 0, .null, []) := rfl
set_option maxRecDepth 100000 in
theorem i11_77 : INS 11 77 = some (2, 1, 0, 0, .int (-1), []) := rfl
set_option maxRecDepth 100000 in
theorem i11_78 : INS 11 78 = some (27, 1, 0, 0, .null, []) := rfl
set_option maxRecDepth 100000 in
theorem i12_0 : INS 12 0 = some (0, 1, 0, 2, .null, []) := rfl
set_option maxRecDepth 100000 in
theorem i12_1 : INS 12 1 = some (16, 3, 1, 0, .null, []) := rfl
set_option maxRecDepth 100000 in
theorem i12_4 : INS 12 4 = some (16, 3, 2, 1, .null, []) := rfl
set_option maxRecDepth 100000 in
theorem i12_7 : INS 12 7 = some (0, 1, 1, 0, .null, []) := rfl
set_option maxRecDepth 100000 in
theorem i12_8 : INS 12 8 = some (18, 1, 23, 0, .null, []) := rfl
set_option maxRecDepth 100000 in
theorem i12_9 : INS 12 9 = some (1, 1, 3, 2, .null, []) := rfl
set_option maxRecDepth 100000 in
theorem i12_10 : INS 12 10 = some (0, 1, 0, 2, .null, []) := rfl
set_option maxRecDepth 100000 in
theorem i12_11 : INS 12 11 = some (16, 3, 1, 5, .null, []) := rfl
set_option maxRecDepth 100000 in
theorem i12_14 : INS 12 14 = some (9, 3, 24, 0, .null, []) := rfl
set_option maxRecDepth 100000 in
theorem i12_17 : INS 12 17 = some (0, 1, 3, 2, .null, []) := rfl
set_option maxRecDepth 100000 in
theorem i12_18 : INS 12 18 = some (16, 3, 3, 0, .null, []) := rfl
set_option maxRecDepth 100000 in
theorem i12_21 : INS 12 21 = some (9, 3, 26, 1, .null, []) := rfl
set_option maxRecDepth 100000 in
theorem i12_24 : INS 12 24 = some (2, 1, 0, 0, .int (-1), []) := rfl
set_option maxRecDepth 100000 in
theorem i12_25 : INS 12 25 = some (27, 1, 0, 0, .null, []) := rfl
set_option maxRecDepth 100000 in
theorem i12_26 : INS 12 26 = some (0, 1, 2, 0, .null, []) := rfl
set_option maxRecDepth 100000 in
theorem i12_27 : INS 12 27 = some (13, 33, 105, 0, .null, [60, 65, 70, 75, 90]) := rfl
set_option maxRecDepth 100000 in
theorem i12_60 : INS 12 60 = some (0, 1, 3, 2, .null, []) := rfl
set_option maxRecDepth 100000 in
theorem i12_61 : INS 12 61 = some (16, 3, 3, 14, .null, []) := rfl
set_option maxRecDepth 100000 in
theorem i12_64 : INS 12 64 = some (27, 1, 0, 0, .null, []) := rfl
set_option maxRecDepth 100000 in
theorem i12_65 : INS 12 65 = some (0, 1, 3, 2, .null, []) := rfl
set_option maxRecDepth 100000 in
theorem i12_66 : INS 12 66 = some (16, 3, 3, 15, .null, []) := rfl
set_option maxRecDepth 100000 in
theorem i12_69 : INS 12 69 = some (27, 1, 0, 0, .null, []) := rfl
set_option maxRecDepth 100000 in
theorem i12_70 : INS 12 70 = some (0, 1, 3, 2, .null, []) := rfl
set_option maxRecDepth 100000 in
theorem i12_71 : INS 12 71 = some (16, 3, 3, 16, .null, []) := rfl
set_option maxRecDepth 100000 in
theorem i12_74 : INS 12 74 = some (27, 1, 0, 0, .null, []) := rfl
set_option maxRecDepth 100000 in
theorem i12_75 : INS 12 75 = some (0, 1, 0, 2, .null, []) := rfl
set_option maxRecDepth 100000 in
theorem i12_76 : INS 12 76 = some (16, 3, 1, 3, .null, []) := rfl
set_option maxRecDepth 100000 in
theorem i12_79 : INS 12 79 = some (0, 1, 1, 0, .null, []) := rfl
set_option maxRecDepth 100000 in
theorem i12_80 : INS 12 80 = some (18, 1, 22, 0, .null, []) := rfl
set_option maxRecDepth 100000 in
theorem i12_81 : INS 12 81 = some (9, 3, 88, 0, .null, []) := rfl
set_option maxRecDepth 100000 in
theorem i12_84 : INS 12 84 = some (2, 1, 0, 0, .int 1, []) := rfl
set_option maxRecDepth 100000 in
theorem i12_85 : INS 12 85 = some (12, 3, 89, 0, .null, []) := rfl
set_option maxRecDepth 100000 in
theorem i12_88 : INS 12 88 = some (2, 1, 0, 0, .int 0, []) := rfl
set_option maxRecDepth 100000 in
theorem i12_89 : INS 12 89 = some (27, 1, 0, 0, .null, []) := rfl
set_option maxRecDepth 100000 in
theorem i12_90 : INS 12 90 = some (0, 1, 0, 2, .null, []) := rfl
set_option maxRecDepth 100000 in
theorem i12_91 : INS 12 91 = some (16, 3, 1, 4, .null, []) := rfl
set_option maxRecDepth 100000 in
theorem i12_94 : INS 12 94 = some (0, 1, 1, 0, .null, []) := rfl
set_option maxRecDepth 100000 in
theorem i12_95 : INS 12 95 = some (18, 1, 22, 0, .null, []) := rfl
set_option maxRecDepth 100000 in
theorem i12_96 : INS 12 96 = some (9, 3, 103, 0, .null, []) := rfl
set_option maxRecDepth 100000 in
theorem i12_99 : INS 12 99 = some (2, 1, 0, 0, .int 1, []) := rfl
set_option maxRecDepth 100000 in
theorem i12_100 : INS 12 100 = some (12, 3, 104, 0, .null, []) := rfl
set_option maxRecDepth 100000 in
theorem i12_103 : INS 12 103 = some (2, 1, 0, 0, .int 0, []) := rfl
set_option maxRecDepth 100000 in
theorem i12_104 : INS 12 104 = some (27, 1, 0, 0, .null, []) := rfl
set_option maxRecDepth 100000 in
theorem i12_105 : INS 12 105 = some (2, 1, 0, 0, .int (-1), []) := rfl
set_option maxRecDepth 100000 in
theorem i12_106 : INS 12 106 = some (27, 1, 0, 0, .null, []) := rfl
set_option maxRecDepth 100000 in
theorem i14_0 : INS 14 0 = some (0, 1, 0, 2, .null, []) := rfl
set_option maxRecDepth 100000 in
theorem i14_1 : INS 14 1 = some (16, 3, 2, 1, .null, []) := rfl
set_option maxRecDepth 100000 in
theorem i14_4 : INS 14 4 = some (0, 1, 1, 0, .null, []) := rfl
set_option maxRecDepth 100000 in
theorem i14_5 : INS 14 5 = some (18, 1, 23, 0, .null, []) := rfl
set_option maxRecDepth 100000 in
theorem i14_6 : INS 14 6 = some (0, 1, 2, 0, .null, []) := rfl
set_option maxRecDepth 100000 in
theorem i14_7 : INS 14 7 = some (0, 1, 3, 0, .null, []) := rfl
set_option maxRecDepth 100000 in
theorem i14_8 : INS 14 8 = some (0, 2, 4, 0, .null, []) := rfl
set_option maxRecDepth 100000 in
theorem i14_10 : INS 14 10 = some (0, 2, 5, 0, .null, []) := rfl
set_option maxRecDepth 100000 in
theorem i14_12 : INS 14 12 = some (0, 1, 0, 2, .null, []) := rfl
set_option maxRecDepth 100000 in
theorem i14_13 : INS 14 13 = some (16, 3, 2, 0, .null, []) := rfl
set_option maxRecDepth 100000 in
theorem i14_16 : INS 14 16 = some (0, 2, 4, 0, .null, []) := rfl
set_option maxRecDepth 100000 in
theorem i14_18 : INS 14 18 = some (24, 3, 2, 0, .null, []) := rfl
set_option maxRecDepth 100000 in
theorem i14_21 : INS 14 21 = some (24, 3, 26, 0, .null, []) := rfl
set_option maxRecDepth 100000 in
theorem i14_24 : INS 14 24 = some (27, 1, 3, 0, .null, []) := rfl
set_option maxRecDepth 100000 in
theorem i15_0 : INS 15 0 = some (2, 1, 0, 0, .int 0, []) := rfl
set_option maxRecDepth 100000 in
theorem i15_1 : INS 15 1 = some (1, 1, 2, 0, .null, []) := rfl
set_option maxRecDepth 100000 in
theorem i15_2 : INS 15 2 = some (0, 1, 2, 0, .null, []) := rfl
set_option maxRecDepth 100000 in
theorem i15_3 : INS 15 3 = some (2, 3, 0, 0, .int 144, []) := rfl
set_option maxRecDepth 100000 in
theorem i15_6 : INS 15 6 = some (10, 3, 30, 3, .null, []) := rfl
set_option maxRecDepth 100000 in
theorem i15_9 : INS 15 9 = some (0, 1, 0, 2, .null, []) := rfl
set_option maxRecDepth 100000 in
theorem i15_10 : INS 15 10 = some (16, 3, 2, 1, .null, []) := rfl
set_option maxRecDepth 100000 in
theorem i15_13 : INS 15 13 = some (0, 1, 2, 0, .null, []) := rfl
set_option maxRecDepth 100000 in
theorem i15_14 : INS 15 14 = some (18, 1, 23, 0, .null, []) := rfl
set_option maxRecDepth 100000 in
theorem i15_15 : INS 15 15 = some (0, 1, 1, 2, .null, []) := rfl
set_option maxRecDepth 100000 in
theorem i15_16 : INS 15 16 = some (16, 3, 2, 1, .null, []) := rfl
set_option maxRecDepth 100000 in
theorem i15_19 : INS 15 19 = some (0, 1, 2, 0, .null, []) := rfl
set_option maxRecDepth 100000 in
theorem i15_20 : INS 15 20 = some (18, 1, 23, 0, .null, []) := rfl
set_option maxRecDepth 100000 in
theorem i15_21 : INS 15 21 = some (24, 3, 28, 0, .null, []) := rfl
set_option maxRecDepth 100000 in
theorem i15_24 : INS 15 24 = some (15, 3, 2, 0, .int 1, []) := rfl
set_option maxRecDepth 100000 in
theorem i15_27 : INS 15 27 = some (12, 3, 2, 0, .null, []) := rfl
set_option maxRecDepth 100000 in
theorem i15_30 : INS 15 30 = some (27, 1, 3, 0, .null, []) := rfl
set_option maxRecDepth 100000 in
theorem i16_0 : INS 16 0 = some (2, 1, 0, 0, .int 0, []) := rfl
set_option maxRecDepth 100000 in
theorem i16_1 : INS 16 1 = some (1, 1, 1, 0, .null, []) := rfl
set_option maxRecDepth 100000 in
theorem i16_2 : INS 16 2 = some (0, 1, 1, 0, .null, []) := rfl
set_option maxRecDepth 100000 in
theorem i16_3 : INS 16 3 = some (2, 3, 0, 0, .int 144, []) := rfl
set_option maxRecDepth 100000 in
theorem i16_6 : INS 16 6 = some (10, 3, 31, 3, .null, []) := rfl
set_option maxRecDepth 100000 in
theorem i16_9 : INS 16 9 = some (0, 1, 0, 2, .null, []) := rfl
set_option maxRecDepth 100000 in
theorem i16_10 : INS 16 10 = some (16, 3, 2, 1, .null, []) := rfl
set_option maxRecDepth 100000 in
theorem i16_13 : INS 16 13 = some (0, 1, 1, 0, .null, []) := rfl
set_option maxRecDepth 100000 in
theorem i16_14 : INS 16 14 = some (18, 1, 23, 0, .null, []) := rfl
set_option maxRecDepth 100000 in
theorem i16_15 : INS 16 15 = some (24, 3, 30, 0, .null, []) := rfl
set_option maxRecDepth 100000 in
theorem i16_18 : INS 16 18 = some (0, 1, 0, 2, .null, []) := rfl
set_option maxRecDepth 100000 in
theorem i16_19 : INS 16 19 = some (16, 3, 2, 4, .null, []) := rfl
set_option maxRecDepth 100000 in
theorem i16_22 : INS 16 22 = some (0, 1, 1, 0, .null, []) := rfl
set_option maxRecDepth 100000 in
theorem i16_23 : INS 16 23 = some (2, 1, 0, 0, .int (-1), []) := rfl
set_option maxRecDepth 100000 in
theorem i16_24 : INS 16 24 = some (19, 1, 20, 0, .null, []) := rfl
set_option maxRecDepth 100000 in
theorem i16_25 : INS 16 25 = some (15, 3, 1, 0, .int 1, []) := rfl
set_option maxRecDepth 100000 in
theorem i16_28 : INS 16 28 = some (12, 3, 2, 0, .null, []) := rfl
set_option maxRecDepth 100000 in
theorem i16_31 : INS 16 31 = some (2, 1, 0, 0, .int 0, []) := rfl
set_option maxRecDepth 100000 in
theorem i16_32 : INS 16 32 = some (1, 1, 1, 0, .null, []) := rfl
set_option maxRecDepth 100000 in
theorem i16_33 : INS 16 33 = some (0, 1, 1, 0, .null, []) := rfl
set_option maxRecDepth 100000 in
theorem i16_34 : INS 16 34 = some (2, 3, 0, 0, .int 144, []) := rfl
set_option maxRecDepth 100000 in
theorem i16_37 : INS 16 37 = some (10, 3, 141, 3, .null, []) := rfl
set_option maxRecDepth 100000 in
theorem i16_40 : INS 16 40 = some (0, 1, 0, 2, .null, []) := rfl
set_option maxRecDepth 100000 in
theorem i16_41 : INS 16 41 = some (16, 3, 2, 1, .null, []) := rfl
set_option maxRecDepth 100000 in
theorem i16_44 : INS 16 44 = some (0, 1, 1, 0, .null, []) := rfl
set_option maxRecDepth 100000 in
theorem i16_45 : INS 16 45 = some (18, 1, 23, 0, .null, []) := rfl
set_option maxRecDepth 100000 in
theorem i16_46 : INS 16 46 = some (24, 3, 34, 0, .null, []) := rfl
set_option maxRecDepth 100000 in
theorem i16_49 : INS 16 49 = some (1, 1, 2, 0, .null, []) := rfl
set_option maxRecDepth 100000 in
theorem i16_50 : INS 16 50 = some (0, 1, 2, 0, .null, []) := rfl
set_option maxRecDepth 100000 in
theorem i16_51 : INS 16 51 = some (9, 3, 135, 0, .null, []) := rfl
set_option maxRecDepth 100000 in
theorem i16_54 : INS 16 54 = some (0, 1, 0, 2, .null, []) := rfl
set_option maxRecDepth 100000 in
theorem i16_55 : INS 16 55 = some (16, 3, 2, 1, .null, []) := rfl
set_option maxRecDepth 100000 in
theorem i16_58 : INS 16 58 = some (0, 1, 1, 0, .null, []) := rfl
set_option maxRecDepth 100000 in
theorem i16_59 : INS 16 59 = some (18, 1, 23, 0, .null, []) := rfl
set_option maxRecDepth 100000 in
theorem i16_60 : INS 16 60 = some (16, 3, 3, 0, .null, []) := rfl
set_option maxRecDepth 100000 in
theorem i16_63 : INS 16 63 = some (14, 25, 119, 0, .null, [2, 88, 4, 105]) := rfl
set_option maxRecDepth 100000 in
theorem i16_88 : INS 16 88 = some (0, 1, 0, 2, .null, []) := rfl
set_option maxRecDepth 100000 in
theorem i16_89 : INS 16 89 = some (0, 1, 1, 0, .null, []) := rfl
set_option maxRecDepth 100000 in
theorem i16_90 : INS 16 90 = some (0, 1, 0, 2, .null, []) := rfl
set_option maxRecDepth 100000 in
theorem i16_91 : INS 16 91 = some (16, 3, 2, 1, .null, []) := rfl
set_option maxRecDepth 100000 in
theorem i16_94 : INS 16 94 = some (0, 1, 1, 0, .null, []) := rfl
set_option maxRecDepth 100000 in
theorem i16_95 : INS 16 95 = some (18, 1, 23, 0, .null, []) := rfl
set_option maxRecDepth 100000 in
theorem i16_96 : INS 16 96 = some (16, 3, 3, 1, .null, []) := rfl
set_option maxRecDepth 100000 in
theorem i16_99 : INS 16 99 = some (24, 3, 17, 0, .null, []) := rfl
set_option maxRecDepth 100000 in
theorem i16_102 : INS 16 102 = some (12, 3, 135, 0, .null, []) := rfl
set_option maxRecDepth 100000 in
theorem i16_105 : INS 16 105 = some (0, 1, 0, 2, .null, []) := rfl
set_option maxRecDepth 100000 in
theorem i16_106 : INS 16 106 = some (0, 1, 1, 0, .null, []) := rfl
set_option maxRecDepth 100000 in
theorem i16_107 : INS 16 107 = some (0, 1, 0, 2, .null, []) := rfl
set_option maxRecDepth 100000 in
theorem i16_108 : INS 16 108 = some (16, 3, 2, 1, .null, []) := rfl
set_option maxRecDepth 100000 in
theorem i16_111 : INS 16 111 = some (0, 1, 1, 0, .null, []) := rfl
set_option maxRecDepth 100000 in
theorem i16_112 : INS 16 112 = some (18, 1, 23, 0, .null, []) := rfl
set_option maxRecDepth 100000 in
theorem i16_113 : INS 16 113 = some (24, 3, 18, 0, .null, []) := rfl
set_option maxRecDepth 100000 in
theorem i16_116 : INS 16 116 = some (12, 3, 135, 0, .null, []) := rfl
set_option maxRecDepth 100000 in
theorem i16_119 : INS 16 119 = some (0, 1, 0, 2, .null, []) := rfl
set_option maxRecDepth 100000 in
theorem i16_120 : INS 16 120 = some (0, 1, 1, 0, .null, []) := rfl
set_option maxRecDepth 100000 in
theorem i16_121 : INS 16 121 = some (0, 1, 0, 2, .null, []) := rfl
set_option maxRecDepth 100000 in
theorem i16_122 : INS 16 122 = some (16, 3, 2, 1, .null, []) := rfl
set_option maxRecDepth 100000 in
theorem i16_125 : INS 16 125 = some (0, 1, 1, 0, .null, []) := rfl
set_option maxRecDepth 100000 in
theorem i16_126 : INS 16 126 = some (18, 1, 23, 0, .null, []) := rfl
set_option maxRecDepth 100000 in
theorem i16_127 : INS 16 127 = some (16, 3, 3, 1, .null, []) := rfl
set_option maxRecDepth 100000 in
theorem i16_130 : INS 16 130 = some (0, 1, 2, 0, .null, []) := rfl
set_option maxRecDepth 100000 in
theorem i16_131 : INS 16 131 = some (24, 3, 19, 0, .null, []) := rfl
set_option maxRecDepth 100000 in
theorem i16_134 : INS 16 134 = some (8, 1, 1, 0, .null, []) := rfl
set_option maxRecDepth 100000 in
theorem i16_135 : INS 16 135 = some (15, 3, 1, 0, .int 1, []) := rfl
set_option maxRecDepth 100000 in
theorem i16_138 : INS 16 138 = some (12, 3, 33, 0, .null, []) := rfl
set_option maxRecDepth 100000 in
theorem i16_141 : INS 16 141 = some (2, 1, 0, 0, .int 0, []) := rfl
set_option maxRecDepth 100000 in
theorem i16_142 : INS 16 142 = some (1, 1, 1, 0, .null, []) := rfl
set_option maxRecDepth 100000 in
theorem i16_143 : INS 16 143 = some (2, 1, 0, 0, .int 0, []) := rfl
set_option maxRecDepth 100000 in
theorem i16_144 : INS 16 144 = some (1, 1, 2, 0, .null, []) := rfl
set_option maxRecDepth 100000 in
theorem i16_145 : INS 16 145 = some (0, 1, 2, 0, .null, []) := rfl
set_option maxRecDepth 100000 in
theorem i16_146 : INS 16 146 = some (2, 3, 0, 0, .int 144, []) := rfl
set_option maxRecDepth 100000 in
theorem i16_149 : INS 16 149 = some (10, 3, 176, 3, .null, []) := rfl
set_option maxRecDepth 100000 in
theorem i16_152 : INS 16 152 = some (0, 1, 0, 2, .null, []) := rfl
set_option maxRecDepth 100000 in
theorem i16_153 : INS 16 153 = some (16, 3, 2, 4, .null, []) := rfl
set_option maxRecDepth 100000 in
theorem i16_156 : INS 16 156 = some (0, 1, 2, 0, .null, []) := rfl
set_option maxRecDepth 100000 in
theorem i16_157 : INS 16 157 = some (18, 1, 20, 0, .null, []) := rfl
set_option maxRecDepth 100000 in
theorem i16_158 : INS 16 158 = some (2, 1, 0, 0, .int (-1), []) := rfl
set_option maxRecDepth 100000 in
theorem i16_159 : INS 16 159 = some (10, 3, 170, 0, .null, []) := rfl
set_option maxRecDepth 100000 in
theorem i16_162 : INS 16 162 = some (0, 1, 1, 0, .null, []) := rfl
set_option maxRecDepth 100000 in
theorem i16_163 : INS 16 163 = some (0, 1, 0, 2, .null, []) := rfl
set_option maxRecDepth 100000 in
theorem i16_164 : INS 16 164 = some (0, 1, 2, 0, .null, []) := rfl
set_option maxRecDepth 100000 in
theorem i16_165 : INS 16 165 = some (24, 3, 21, 0, .null, []) := rfl
set_option maxRecDepth 100000 in
theorem i16_168 : INS 16 168 = some (3, 1, 0, 0, .null, []) := rfl
set_option maxRecDepth 100000 in
theorem i16_169 : INS 16 169 = some (1, 1, 1, 0, .null, []) := rfl
set_option maxRecDepth 100000 in
theorem i16_170 : INS 16 170 = some (15, 3, 2, 0, .int 1, []) := rfl
set_option maxRecDepth 100000 in
theorem i16_173 : INS 16 173 = some (12, 3, 145, 0, .null, []) := rfl
set_option maxRecDepth 100000 in
theorem i16_176 : INS 16 176 = some (0, 1, 0, 2, .null, []) := rfl
set_option maxRecDepth 100000 in
theorem i16_177 : INS 16 177 = some (8, 1, 0, 0, .null, []) := rfl
set_option maxRecDepth 100000 in
theorem i16_178 : INS 16 178 = some (16, 3, 2, 3, .null, []) := rfl
set_option maxRecDepth 100000 in
theorem i16_181 : INS 16 181 = some (2, 1, 0, 0, .int 1, []) := rfl
set_option maxRecDepth 100000 in
theorem i16_182 : INS 16 182 = some (3, 1, 0, 0, .null, []) := rfl
set_option maxRecDepth 100000 in
theorem i16_183 : INS 16 183 = some (17, 3, 2, 3, .null, []) := rfl
set_option maxRecDepth 100000 in
theorem i16_186 : INS 16 186 = some (0, 1, 1, 0, .null, []) := rfl
set_option maxRecDepth 100000 in
theorem i16_187 : INS 16 187 = some (27, 1, 0, 0, .null, []) := rfl
set_option maxRecDepth 100000 in
theorem i17_0 : INS 17 0 = some (0, 1, 1, 0, .null, []) := rfl
set_option maxRecDepth 100000 in
theorem i17_1 : INS 17 1 = some (0, 1, 2, 0, .null, []) := rfl
set_option maxRecDepth 100000 in
theorem i17_2 : INS 17 2 = some (24, 3, 121, 5, .null, []) := rfl
set_option maxRecDepth 100000 in
theorem i17_5 : INS 17 5 = some (1, 1, 3, 0, .null, []) := rfl
set_option maxRecDepth 100000 in
theorem i17_6 : INS 17 6 = some (2, 1, 0, 0, .int 1, []) := rfl
set_option maxRecDepth 100000 in
theorem i17_7 : INS 17 7 = some (1, 2, 4, 0, .null, []) := rfl
set_option maxRecDepth 100000 in
theorem i17_9 : INS 17 9 = some (0, 2, 4, 0, .null, []) := rfl
set_option maxRecDepth 100000 in
theorem i17_11 : INS 17 11 = some (2, 1, 0, 0, .int 5, []) := rfl
set_option maxRecDepth 100000 in
theorem i17_12 : INS 17 12 = some (10, 3, 80, 4, .null, []) := rfl
set_option maxRecDepth 100000 in
theorem i17_15 : INS 17 15 = some (0, 1, 3, 0, .null, []) := rfl
set_option maxRecDepth 100000 in
theorem i17_16 : INS 17 16 = some (2, 1, 0, 0, .int (-1), []) := rfl
set_option maxRecDepth 100000 in
theorem i17_17 : INS 17 17 = some (10, 3, 80, 0, .null, []) := rfl
set_option maxRecDepth 100000 in
theorem i17_20 : INS 17 20 = some (0, 1, 0, 2, .null, []) := rfl
set_option maxRecDepth 100000 in
theorem i17_21 : INS 17 21 = some (16, 3, 2, 1, .null, []) := rfl
set_option maxRecDepth 100000 in
theorem i17_24 : INS 17 24 = some (0, 1, 3, 0, .null, []) := rfl
set_option maxRecDepth 100000 in
theorem i17_25 : INS 17 25 = some (18, 1, 23, 0, .null, []) := rfl
set_option maxRecDepth 100000 in
theorem i17_26 : INS 17 26 = some (16, 3, 3, 0, .null, []) := rfl
set_option maxRecDepth 100000 in
theorem i17_29 : INS 17 29 = some (2, 1, 0, 0, .int 3, []) := rfl
set_option maxRecDepth 100000 in
theorem i17_30 : INS 17 30 = some (10, 3, 68, 1, .null, []) := rfl
set_option maxRecDepth 100000 in
theorem i17_33 : INS 17 33 = some (0, 1, 0, 2, .null, []) := rfl
set_option maxRecDepth 100000 in
theorem i17_34 : INS 17 34 = some (16, 3, 2, 1, .null, []) := rfl
set_option maxRecDepth 100000 in
theorem i17_37 : INS 17 37 = some (0, 1, 3, 0, .null, []) := rfl
set_option maxRecDepth 100000 in
theorem i17_38 : INS 17 38 = some (18, 1, 23, 0, .null, []) := rfl
set_option maxRecDepth 100000 in
theorem i17_39 : INS 17 39 = some (16, 3, 3, 1, .null, []) := rfl
set_option maxRecDepth 100000 in
theorem i17_42 : INS 17 42 = some (0, 1, 2, 0, .null, []) := rfl
set_option maxRecDepth 100000 in
theorem i17_43 : INS 17 43 = some (10, 3, 68, 1, .null, []) := rfl
set_option maxRecDepth 100000 in
theorem i17_46 : INS 17 46 = some (0, 1, 0, 2, .null, []) := rfl
set_option maxRecDepth 100000 in
theorem i17_47 : INS 17 47 = some (16, 3, 2, 1, .null, []) := rfl
set_option maxRecDepth 100000 in
theorem i17_50 : INS 17 50 = some (0, 1, 3, 0, .null, []) := rfl
set_option maxRecDepth 100000 in
theorem i17_51 : INS 17 51 = some (18, 1, 23, 0, .null, []) := rfl
set_option maxRecDepth 100000 in
theorem i17_52 : INS 17 52 = some (16, 3, 3, 5, .null, []) := rfl
set_option maxRecDepth 100000 in
theorem i17_55 : INS 17 55 = some (9, 3, 67, 1, .null, []) := rfl
set_option maxRecDepth 100000 in
theorem i17_58 : INS 17 58 = some (0, 1, 0, 2, .null, []) := rfl
set_option maxRecDepth 100000 in
theorem i17_59 : INS 17 59 = some (0, 1, 1, 0, .null, []) := rfl
set_option maxRecDepth 100000 in
theorem i17_60 : INS 17 60 = some (0, 1, 3, 0, .null, []) := rfl
set_option maxRecDepth 100000 in
theorem i17_61 : INS 17 61 = some (0, 1, 2, 0, .null, []) := rfl
set_option maxRecDepth 100000 in
theorem i17_62 : INS 17 62 = some (0, 2, 4, 0, .null, []) := rfl
set_option maxRecDepth 100000 in
theorem i17_64 : INS 17 64 = some (24, 3, 20, 0, .null, []) := rfl
set_option maxRecDepth 100000 in
theorem i17_67 : INS 17 67 = some (27, 1, 3, 0, .null, []) := rfl
set_option maxRecDepth 100000 in
theorem i17_68 : INS 17 68 = some (0, 1, 3, 0, .null, []) := rfl
set_option maxRecDepth 100000 in
theorem i17_69 : INS 17 69 = some (0, 1, 2, 0, .null, []) := rfl
set_option maxRecDepth 100000 in
theorem i17_70 : INS 17 70 = some (24, 3, 121, 5, .null, []) := rfl
set_option maxRecDepth 100000 in
theorem i17_73 : INS 17 73 = some (1, 1, 3, 0, .null, []) := rfl
set_option maxRecDepth 100000 in
theorem i17_74 : INS 17 74 = some (15, 3, 4, 0, .int 1, []) := rfl
set_option maxRecDepth 100000 in
theorem i17_77 : INS 17 77 = some (12, 3, 9, 0, .null, []) := rfl
set_option maxRecDepth 100000 in
theorem i17_80 : INS 17 80 = some (27, 1, 3, 0, .null, []) := rfl
set_option maxRecDepth 100000 in
theorem i18_0 : INS 18 0 = some (2, 1, 0, 0, .int 1, []) := rfl
set_option maxRecDepth 100000 in
theorem i18_1 : INS 18 1 = some (1, 1, 3, 0, .null, []) := rfl
set_option maxRecDepth 100000 in
theorem i18_2 : INS 18 2 = some (0, 1, 3, 0, .null, []) := rfl
set_option maxRecDepth 100000 in
theorem i18_3 : INS 18 3 = some (2, 1, 0, 0, .int 4, []) := rfl
set_option maxRecDepth 100000 in
theorem i18_4 : INS 18 4 = some (10, 3, 47, 4, .null, []) := rfl
set_option maxRecDepth 100000 in
theorem i18_7 : INS 18 7 = some (0, 1, 2, 2, .null, []) := rfl
set_option maxRecDepth 100000 in
theorem i18_8 : INS 18 8 = some (16, 3, 3, 13, .null, []) := rfl
set_option maxRecDepth 100000 in
theorem i18_11 : INS 18 11 = some (0, 1, 3, 0, .null, []) := rfl
set_option maxRecDepth 100000 in
theorem i18_12 : INS 18 12 = some (3, 1, 0, 0, .null, []) := rfl
set_option maxRecDepth 100000 in
theorem i18_13 : INS 18 13 = some (2, 1, 0, 0, .int 3, []) := rfl
set_option maxRecDepth 100000 in
theorem i18_14 : INS 18 14 = some (3, 1, 5, 0, .null, []) := rfl
set_option maxRecDepth 100000 in
theorem i18_15 : INS 18 15 = some (1, 2, 4, 0, .null, []) := rfl
set_option maxRecDepth 100000 in
theorem i18_17 : INS 18 17 = some (0, 1, 2, 2, .null, []) := rfl
set_option maxRecDepth 100000 in
theorem i18_18 : INS 18 18 = some (0, 2, 4, 0, .null, []) := rfl
set_option maxRecDepth 100000 in
theorem i18_20 : INS 18 20 = some (24, 3, 29, 0, .null, []) := rfl
set_option maxRecDepth 100000 in
theorem i18_23 : INS 18 23 = some (9, 3, 41, 0, .null, []) := rfl
set_option maxRecDepth 100000 in
theorem i18_26 : INS 18 26 = some (0, 1, 0, 2, .null, []) := rfl
set_option maxRecDepth 100000 in
theorem i18_27 : INS 18 27 = some (0, 1, 1, 0, .null, []) := rfl
set_option maxRecDepth 100000 in
theorem i18_28 : INS 18 28 = some (0, 2, 4, 0, .null, []) := rfl
set_option maxRecDepth 100000 in
theorem i18_30 : INS 18 30 = some (0, 1, 2, 2, .null, []) := rfl
set_option maxRecDepth 100000 in
theorem i18_31 : INS 18 31 = some (16, 3, 3, 5, .null, []) := rfl
set_option maxRecDepth 100000 in
theorem i18_34 : INS 18 34 = some (24, 3, 19, 0, .null, []) := rfl
set_option maxRecDepth 100000 in
theorem i18_37 : INS 18 37 = some (9, 3, 41, 0, .null, []) := rfl
set_option maxRecDepth 100000 in
theorem i18_40 : INS 18 40 = some (27, 1, 3, 0, .null, []) := rfl
set_option maxRecDepth 100000 in
theorem i18_41 : INS 18 41 = some (15, 3, 3, 0, .int 1, []) := rfl
set_option maxRecDepth 100000 in
theorem i18_44 : INS 18 44 = some (12, 3, 2, 0, .null, []) := rfl
set_option maxRecDepth 100000 in
theorem i18_47 : INS 18 47 = some (27, 1, 3, 0, .null, []) := rfl
set_option maxRecDepth 100000 in
theorem i19_0 : INS 19 0 = some (0, 1, 1, 0, .null, []) := rfl
set_option maxRecDepth 100000 in
theorem i19_1 : INS 19 1 = some (0, 1, 2, 0, .null, []) := rfl
set_option maxRecDepth 100000 in
theorem i19_2 : INS 19 2 = some (24, 3, 121, 5, .null, []) := rfl
set_option maxRecDepth 100000 in
theorem i19_5 : INS 19 5 = some (1, 2, 4, 0, .null, []) := rfl
set_option maxRecDepth 100000 in
theorem i19_7 : INS 19 7 = some (0, 2, 4, 0, .null, []) := rfl
set_option maxRecDepth 100000 in
theorem i19_9 : INS 19 9 = some (2, 1, 0, 0, .int (-1), []) := rfl
set_option maxRecDepth 100000 in
theorem i19_10 : INS 19 10 = some (10, 3, 31, 0, .null, []) := rfl
set_option maxRecDepth 100000 in
theorem i19_13 : INS 19 13 = some (0, 1, 0, 2, .null, []) := rfl
set_option maxRecDepth 100000 in
theorem i19_14 : INS 19 14 = some (16, 3, 2, 1, .null, []) := rfl
set_option maxRecDepth 100000 in
theorem i19_17 : INS 19 17 = some (0, 2, 4, 0, .null, []) := rfl
set_option maxRecDepth 100000 in
theorem i19_19 : INS 19 19 = some (18, 1, 23, 0, .null, []) := rfl
set_option maxRecDepth 100000 in
theorem i19_20 : INS 19 20 = some (0, 1, 3, 0, .null, []) := rfl
set_option maxRecDepth 100000 in
theorem i19_21 : INS 19 21 = some (0, 1, 2, 0, .null, []) := rfl
set_option maxRecDepth 100000 in
theorem i19_22 : INS 19 22 = some (24, 3, 120, 5, .null, []) := rfl
set_option maxRecDepth 100000 in
theorem i19_25 : INS 19 25 = some (24, 3, 35, 0, .null, []) := rfl
set_option maxRecDepth 100000 in
theorem i19_28 : INS 19 28 = some (9, 3, 33, 1, .null, []) := rfl
set_option maxRecDepth 100000 in
theorem i19_31 : INS 19 31 = some (2, 1, 0, 0, .int 0, []) := rfl
set_option maxRecDepth 100000 in
theorem i19_32 : INS 19 32 = some (27, 1, 0, 0, .null, []) := rfl
set_option maxRecDepth 100000 in
theorem i19_33 : INS 19 33 = some (0, 1, 0, 2, .null, []) := rfl
set_option maxRecDepth 100000 in
theorem i19_34 : INS 19 34 = some (0, 1, 1, 0, .null, []) := rfl
set_option maxRecDepth 100000 in
theorem i19_35 : INS 19 35 = some (0, 2, 4, 0, .null, []) := rfl
set_option maxRecDepth 100000 in
theorem i19_37 : INS 19 37 = some (0, 1, 2, 0, .null, []) := rfl
set_option maxRecDepth 100000 in
theorem i19_38 : INS 19 38 = some (2, 1, 0, 0, .int 1, []) := rfl
set_option maxRecDepth 100000 in
theorem i19_39 : INS 19 39 = some (24, 3, 20, 0, .null, []) := rfl
set_option maxRecDepth 100000 in
theorem i19_42 : INS 19 42 = some (2, 1, 0, 0, .int 1, []) := rfl
set_option maxRecDepth 100000 in
theorem i19_43 : INS 19 43 = some (27, 1, 0, 0, .null, []) := rfl
set_option maxRecDepth 100000 in
theorem i20_0 : INS 20 0 = some (0, 1, 3, 0, .null, []) := rfl
set_option maxRecDepth 100000 in
theorem i20_1 : INS 20 1 = some (24, 3, 120, 5, .null, []) := rfl
set_option maxRecDepth 100000 in
theorem i20_4 : INS 20 4 = some (1, 2, 5, 0, .null, []) := rfl
set_option maxRecDepth 100000 in
theorem i20_6 : INS 20 6 = some (2, 2, 0, 0, .int 8, []) := rfl
set_option maxRecDepth 100000 in
theorem i20_8 : INS 20 8 = some (0, 2, 5, 0, .null, []) := rfl
set_option maxRecDepth 100000 in
theorem i20_10 : INS 20 10 = some (0, 1, 0, 2, .null, []) := rfl
set_option maxRecDepth 100000 in
theorem i20_11 : INS 20 11 = some (16, 3, 2, 1, .null, []) := rfl
set_option maxRecDepth 100000 in
theorem i20_14 : INS 20 14 = some (0, 1, 2, 0, .null, []) := rfl
set_option maxRecDepth 100000 in
theorem i20_15 : INS 20 15 = some (18, 1, 23, 0, .null, []) := rfl
set_option maxRecDepth 100000 in
theorem i20_16 : INS 20 16 = some (16, 3, 3, 12, .null, []) := rfl
set_option maxRecDepth 100000 in
theorem i20_19 : INS 20 19 = some (3, 1, 1, 0, .null, []) := rfl
set_option maxRecDepth 100000 in
theorem i20_20 : INS 20 20 = some (2, 1, 0, 0, .int 1, []) := rfl
set_option maxRecDepth 100000 in
theorem i20_21 : INS 20 21 = some (3, 1, 1, 0, .null, []) := rfl
set_option maxRecDepth 100000 in
theorem i20_22 : INS 20 22 = some (2, 1, 0, 0, .int 3, []) := rfl
set_option maxRecDepth 100000 in
theorem i20_23 : INS 20 23 = some (3, 1, 5, 0, .null, []) := rfl
set_option maxRecDepth 100000 in
theorem i20_24 : INS 20 24 = some (3, 1, 2, 0, .null, []) := rfl
set_option maxRecDepth 100000 in
theorem i20_25 : INS 20 25 = some (0, 2, 4, 0, .null, []) := rfl
set_option maxRecDepth 100000 in
theorem i20_27 : INS 20 27 = some (3, 1, 0, 0, .null, []) := rfl
set_option maxRecDepth 100000 in
theorem i20_28 : INS 20 28 = some (1, 2, 6, 0, .null, []) := rfl
set_option maxRecDepth 100000 in
theorem i20_30 : INS 20 30 = some (0, 1, 0, 2, .null, []) := rfl
set_option maxRecDepth 100000 in
theorem i20_31 : INS 20 31 = some (16, 3, 2, 4, .null, []) := rfl
set_option maxRecDepth 100000 in
theorem i20_34 : INS 20 34 = some (0, 1, 2, 0, .null, []) := rfl
set_option maxRecDepth 100000 in
theorem i20_35 : INS 20 35 = some (18, 1, 20, 0, .null, []) := rfl
set_option maxRecDepth 100000 in
theorem i20_36 : INS 20 36 = some (2, 1, 0, 0, .int (-1), []) := rfl
set_option maxRecDepth 100000 in
theorem i20_37 : INS 20 37 = some (10, 3, 51, 0, .null, []) := rfl
set_option maxRecDepth 100000 in
theorem i20_40 : INS 20 40 = some (0, 2, 6, 0, .null, []) := rfl
set_option maxRecDepth 100000 in
theorem i20_42 : INS 20 42 = some (0, 1, 0, 2, .null, []) := rfl
set_option maxRecDepth 100000 in
theorem i20_43 : INS 20 43 = some (16, 3, 2, 6, .null, []) := rfl
set_option maxRecDepth 100000 in
theorem i20_46 : INS 20 46 = some (0, 1, 2, 0, .null, []) := rfl
set_option maxRecDepth 100000 in
theorem i20_47 : INS 20 47 = some (18, 1, 20, 0, .null, []) := rfl
set_option maxRecDepth 100000 in
theorem i20_48 : INS 20 48 = some (10, 3, 74, 3, .null, []) := rfl
set_option maxRecDepth 100000 in
theorem i20_51 : INS 20 51 = some (0, 1, 0, 2, .null, []) := rfl
set_option maxRecDepth 100000 in
theorem i20_52 : INS 20 52 = some (16, 3, 2, 4, .null, []) := rfl
set_option maxRecDepth 100000 in
theorem i20_55 : INS 20 55 = some (0, 1, 2, 0, .null, []) := rfl
set_option maxRecDepth 100000 in
theorem i20_56 : INS 20 56 = some (0, 1, 1, 0, .null, []) := rfl
set_option maxRecDepth 100000 in
theorem i20_57 : INS 20 57 = some (19, 1, 20, 0, .null, []) := rfl
set_option maxRecDepth 100000 in
theorem i20_58 : INS 20 58 = some (0, 1, 0, 2, .null, []) := rfl
set_option maxRecDepth 100000 in
theorem i20_59 : INS 20 59 = some (16, 3, 2, 5, .null, []) := rfl
set_option maxRecDepth 100000 in
theorem i20_62 : INS 20 62 = some (0, 1, 2, 0, .null, []) := rfl
set_option maxRecDepth 100000 in
theorem i20_63 : INS 20 63 = some (0, 2, 5, 0, .null, []) := rfl
set_option maxRecDepth 100000 in
theorem i20_65 : INS 20 65 = some (19, 1, 20, 0, .null, []) := rfl
set_option maxRecDepth 100000 in
theorem i20_66 : INS 20 66 = some (0, 1, 0, 2, .null, []) := rfl
set_option maxRecDepth 100000 in
theorem i20_67 : INS 20 67 = some (16, 3, 2, 6, .null, []) := rfl
set_option maxRecDepth 100000 in
theorem i20_70 : INS 20 70 = some (0, 1, 2, 0, .null, []) := rfl
set_option maxRecDepth 100000 in
theorem i20_71 : INS 20 71 = some (0, 2, 6, 0, .null, []) := rfl
set_option maxRecDepth 100000 in
theorem i20_73 : INS 20 73 = some (19, 1, 20, 0, .null, []) := rfl
set_option maxRecDepth 100000 in
theorem i20_74 : INS 20 74 = some (27, 1, 3, 0, .null, []) := rfl
set_option maxRecDepth 100000 in
theorem i21_0 : INS 21 0 = some (0, 1, 0, 2, .null, []) := rfl
set_option maxRecDepth 100000 in
theorem i21_1 : INS 21 1 = some (16, 3, 2, 1, .null, []) := rfl
set_option maxRecDepth 100000 in
theorem i21_4 : INS 21 4 = some (0, 1, 0, 2, .null, []) := rfl
set_option maxRecDepth 100000 in
theorem i21_5 : INS 21 5 = some (16, 3, 2, 4, .null, []) := rfl
set_option maxRecDepth 100000 in
theorem i21_8 : INS 21 8 = some (0, 1, 1, 0, .null, []) := rfl
set_option maxRecDepth 100000 in
theorem i21_9 : INS 21 9 = some (18, 1, 20, 0, .null, []) := rfl
set_option maxRecDepth 100000 in
theorem i21_10 : INS 21 10 = some (18, 1, 23, 0, .null, []) := rfl
set_option maxRecDepth 100000 in
theorem i21_11 : INS 21 11 = some (1, 1, 2, 2, .null, []) := rfl
set_option maxRecDepth 100000 in
theorem i21_12 : INS 21 12 = some (0, 1, 2, 2, .null, []) := rfl
set_option maxRecDepth 100000 in
theorem i21_13 : INS 21 13 = some (24, 3, 34, 0, .null, []) := rfl
set_option maxRecDepth 100000 in
theorem i21_16 : INS 21 16 = some (1, 1, 3, 0, .null, []) := rfl
set_option maxRecDepth 100000 in
theorem i21_17 : INS 21 17 = some (0, 1, 2, 2, .null, []) := rfl
set_option maxRecDepth 100000 in
theorem i21_18 : INS 21 18 = some (0, 1, 0, 2, .null, []) := rfl
set_option maxRecDepth 100000 in
theorem i21_19 : INS 21 19 = some (16, 3, 2, 5, .null, []) := rfl
set_option maxRecDepth 100000 in
theorem i21_22 : INS 21 22 = some (0, 1, 1, 0, .null, []) := rfl
set_option maxRecDepth 100000 in
theorem i21_23 : INS 21 23 = some (18, 1, 20, 0, .null, []) := rfl
set_option maxRecDepth 100000 in
theorem i21_24 : INS 21 24 = some (24, 3, 120, 5, .null, []) := rfl
set_option maxRecDepth 100000 in
theorem i21_27 : INS 21 27 = some (24, 3, 37, 0, .null, []) := rfl
set_option maxRecDepth 100000 in
theorem i21_30 : INS 21 30 = some (0, 1, 0, 2, .null, []) := rfl
set_option maxRecDepth 100000 in
theorem i21_31 : INS 21 31 = some (16, 3, 2, 1, .null, []) := rfl
set_option maxRecDepth 100000 in
theorem i21_34 : INS 21 34 = some (0, 1, 1, 0, .null, []) := rfl
set_option maxRecDepth 100000 in
theorem i21_35 : INS 21 35 = some (18, 1, 23, 0, .null, []) := rfl
set_option maxRecDepth 100000 in
theorem i21_36 : INS 21 36 = some (0, 1, 3, 0, .null, []) := rfl
set_option maxRecDepth 100000 in
theorem i21_37 : INS 21 37 = some (0, 1, 0, 2, .null, []) := rfl
set_option maxRecDepth 100000 in
theorem i21_38 : INS 21 38 = some (16, 3, 2, 5, .null, []) := rfl
set_option maxRecDepth 100000 in
theorem i21_41 : INS 21 41 = some (0, 1, 1, 0, .null, []) := rfl
set_option maxRecDepth 100000 in
theorem i21_42 : INS 21 42 = some (18, 1, 20, 0, .null, []) := rfl
set_option maxRecDepth 100000 in
theorem i21_43 : INS 21 43 = some (24, 3, 38, 0, .null, []) := rfl
set_option maxRecDepth 100000 in
theorem i21_46 : INS 21 46 = some (0, 1, 0, 2, .null, []) := rfl
set_option maxRecDepth 100000 in
theorem i21_47 : INS 21 47 = some (16, 3, 2, 1, .null, []) := rfl
set_option maxRecDepth 100000 in
theorem i21_50 : INS 21 50 = some (0, 1, 1, 0, .null, []) := rfl
set_option maxRecDepth 100000 in
theorem i21_51 : INS 21 51 = some (18, 1, 23, 0, .null, []) := rfl
set_option maxRecDepth 100000 in
theorem i21_52 : INS 21 52 = some (16, 3, 3, 0, .null, []) := rfl
set_option maxRecDepth 100000 in
theorem i21_55 : INS 21 55 = some (2, 2, 0, 0, .int 7, []) := rfl
set_option maxRecDepth 100000 in
theorem i21_57 : INS 21 57 = some (10, 3, 62, 0, .null, []) := rfl
set_option maxRecDepth 100000 in
theorem i21_60 : INS 21 60 = some (2, 1, 0, 0, .int 0, []) := rfl
set_option maxRecDepth 100000 in
theorem i21_61 : INS 21 61 = some (27, 1, 0, 0, .null, []) := rfl
set_option maxRecDepth 100000 in
theorem i21_62 : INS 21 62 = some (0, 1, 0, 2, .null, []) := rfl
set_option maxRecDepth 100000 in
theorem i21_63 : INS 21 63 = some (16, 3, 2, 2, .null, []) := rfl
set_option maxRecDepth 100000 in
theorem i21_66 : INS 21 66 = some (0, 1, 3, 0, .null, []) := rfl
set_option maxRecDepth 100000 in
theorem i21_67 : INS 21 67 = some (8, 1, 2, 0, .null, []) := rfl
set_option maxRecDepth 100000 in
theorem i21_68 : INS 21 68 = some (18, 1, 20, 0, .null, []) := rfl
set_option maxRecDepth 100000 in
theorem i21_69 : INS 21 69 = some (2, 1, 0, 0, .int 1, []) := rfl
set_option maxRecDepth 100000 in
theorem i21_70 : INS 21 70 = some (3, 1, 0, 0, .null, []) := rfl
set_option maxRecDepth 100000 in
theorem i21_71 : INS 21 71 = some (19, 1, 20, 0, .null, []) := rfl
set_option maxRecDepth 100000 in
theorem i21_72 : INS 21 72 = some (2, 1, 0, 0, .int 1, []) := rfl
set_option maxRecDepth 100000 in
theorem i21_73 : INS 21 73 = some (27, 1, 0, 0, .null, []) := rfl
set_option maxRecDepth 100000 in
theorem i22_0 : INS 22 0 = some (2, 1, 0, 0, .int 0, []) := rfl
set_option maxRecDepth 100000 in
theorem i22_1 : INS 22 1 = some (1, 1, 1, 0, .null, []) := rfl
set_option maxRecDepth 100000 in
theorem i22_2 : INS 22 2 = some (2, 1, 0, 0, .int 0, []) := rfl
set_option maxRecDepth 100000 in
theorem i22_3 : INS 22 3 = some (1, 1, 2, 0, .null, []) := rfl
set_option maxRecDepth 100000 in
theorem i22_4 : INS 22 4 = some (0, 1, 2, 0, .null, []) := rfl
set_option maxRecDepth 100000 in
theorem i22_5 : INS 22 5 = some (2, 3, 0, 0, .int 144, []) := rfl
set_option maxRecDepth 100000 in
theorem i22_8 : INS 22 8 = some (10, 3, 32, 3, .null, []) := rfl
set_option maxRecDepth 100000 in
theorem i22_11 : INS 22 11 = some (0, 1, 0, 2, .null, []) := rfl
set_option maxRecDepth 100000 in
theorem i22_12 : INS 22 12 = some (16, 3, 2, 1, .null, []) := rfl
set_option maxRecDepth 100000 in
theorem i22_15 : INS 22 15 = some (0, 1, 2, 0, .null, []) := rfl
set_option maxRecDepth 100000 in
theorem i22_16 : INS 22 16 = some (18, 1, 23, 0, .null, []) := rfl
set_option maxRecDepth 100000 in
theorem i22_17 : INS 22 17 = some (16, 3, 3, 0, .null, []) := rfl
set_option maxRecDepth 100000 in
theorem i22_20 : INS 22 20 = some (9, 3, 26, 0, .null, []) := rfl
set_option maxRecDepth 100000 in
theorem i22_23 : INS 22 23 = some (15, 3, 1, 0, .int 1, []) := rfl
set_option maxRecDepth 100000 in
theorem i22_26 : INS 22 26 = some (15, 3, 2, 0, .int 1, []) := rfl
set_option maxRecDepth 100000 in
theorem i22_29 : INS 22 29 = some (12, 3, 4, 0, .null, []) := rfl
set_option maxRecDepth 100000 in
theorem i22_32 : INS 22 32 = some (0, 1, 1, 0, .null, []) := rfl
set_option maxRecDepth 100000 in
theorem i22_33 : INS 22 33 = some (27, 1, 0, 0, .null, []) := rfl
set_option maxRecDepth 100000 in
theorem i23_0 : INS 23 0 = some (2, 1, 0, 0, .int 0, []) := rfl
set_option maxRecDepth 100000 in
theorem i23_1 : INS 23 1 = some (1, 1, 1, 0, .null, []) := rfl
set_option maxRecDepth 100000 in
theorem i23_2 : INS 23 2 = some (2, 1, 0, 0, .int 0, []) := rfl
set_option maxRecDepth 100000 in
theorem i23_3 : INS 23 3 = some (1, 1, 2, 0, .null, []) := rfl
set_option maxRecDepth 100000 in
theorem i23_4 : INS 23 4 = some (0, 1, 2, 0, .null, []) := rfl
set_option maxRecDepth 100000 in
theorem i23_5 : INS 23 5 = some (2, 3, 0, 0, .int 144, []) := rfl
set_option maxRecDepth 100000 in
theorem i23_8 : INS 23 8 = some (10, 3, 29, 3, .null, []) := rfl
set_option maxRecDepth 100000 in
theorem i23_11 : INS 23 11 = some (0, 1, 1, 0, .null, []) := rfl
set_option maxRecDepth 100000 in
theorem i23_12 : INS 23 12 = some (0, 1, 0, 2, .null, []) := rfl
set_option maxRecDepth 100000 in
theorem i23_13 : INS 23 13 = some (16, 3, 2, 1, .null, []) := rfl
set_option maxRecDepth 100000 in
theorem i23_16 : INS 23 16 = some (0, 1, 2, 0, .null, []) := rfl
set_option maxRecDepth 100000 in
theorem i23_17 : INS 23 17 = some (18, 1, 23, 0, .null, []) := rfl
set_option maxRecDepth 100000 in
theorem i23_18 : INS 23 18 = some (24, 3, 39, 0, .null, []) := rfl
set_option maxRecDepth 100000 in
theorem i23_21 : INS 23 21 = some (3, 1, 0, 0, .null, []) := rfl
set_option maxRecDepth 100000 in
theorem i23_22 : INS 23 22 = some (1, 1, 1, 0, .null, []) := rfl
set_option maxRecDepth 100000 in
theorem i23_23 : INS 23 23 = some (15, 3, 2, 0, .int 1, []) := rfl
set_option maxRecDepth 100000 in
theorem i23_26 : INS 23 26 = some (12, 3, 4, 0, .null, []) := rfl
set_option maxRecDepth 100000 in
theorem i23_29 : INS 23 29 = some (0, 1, 1, 0, .null, []) := rfl
set_option maxRecDepth 100000 in
theorem i23_30 : INS 23 30 = some (27, 1, 0, 0, .null, []) := rfl
set_option maxRecDepth 100000 in
theorem i24_0 : INS 24 0 = some (2, 1, 0, 0, .int 0, []) := rfl
set_option maxRecDepth 100000 in
theorem i24_1 : INS 24 1 = some (1, 1, 1, 0, .null, []) := rfl
set_option maxRecDepth 100000 in
theorem i24_2 : INS 24 2 = some (2, 1, 0, 0, .int 1, []) := rfl
set_option maxRecDepth 100000 in
theorem i24_3 : INS 24 3 = some (1, 1, 2, 0, .null, []) := rfl
set_option maxRecDepth 100000 in
theorem i24_4 : INS 24 4 = some (0, 1, 2, 0, .null, []) := rfl
set_option maxRecDepth 100000 in
theorem i24_5 : INS 24 5 = some (2, 2, 0, 0, .int 20, []) := rfl
set_option maxRecDepth 100000 in
theorem i24_7 : INS 24 7 = some (10, 3, 25, 4, .null, []) := rfl
set_option maxRecDepth 100000 in
theorem i24_10 : INS 24 10 = some (0, 1, 1, 0, .null, []) := rfl
set_option maxRecDepth 100000 in
theorem i24_11 : INS 24 11 = some (0, 1, 0, 2, .null, []) := rfl
set_option maxRecDepth 100000 in
theorem i24_12 : INS 24 12 = some (16, 3, 2, 2, .null, []) := rfl
set_option maxRecDepth 100000 in
theorem i24_15 : INS 24 15 = some (0, 1, 2, 0, .null, []) := rfl
set_option maxRecDepth 100000 in
theorem i24_16 : INS 24 16 = some (18, 1, 20, 0, .null, []) := rfl
set_option maxRecDepth 100000 in
theorem i24_17 : INS 24 17 = some (3, 1, 0, 0, .null, []) := rfl
set_option maxRecDepth 100000 in
theorem i24_18 : INS 24 18 = some (1, 1, 1, 0, .null, []) := rfl
set_option maxRecDepth 100000 in
theorem i24_19 : INS 24 19 = some (15, 3, 2, 0, .int 1, []) := rfl
set_option maxRecDepth 100000 in
theorem i24_22 : INS 24 22 = some (12, 3, 4, 0, .null, []) := rfl
set_option maxRecDepth 100000 in
theorem i24_25 : INS 24 25 = some (0, 1, 1, 0, .null, []) := rfl
set_option maxRecDepth 100000 in
theorem i24_26 : INS 24 26 = some (27, 1, 0, 0, .null, []) := rfl
set_option maxRecDepth 100000 in
theorem i26_0 : INS 26 0 = some (0, 1, 1, 0, .null, []) := rfl
set_option maxRecDepth 100000 in
theorem i26_1 : INS 26 1 = some (9, 3, 14, 0, .null, []) := rfl
set_option maxRecDepth 100000 in
theorem i26_4 : INS 26 4 = some (0, 1, 1, 0, .null, []) := rfl
set_option maxRecDepth 100000 in
theorem i26_5 : INS 26 5 = some (2, 2, 0, 0, .int 7, []) := rfl
set_option maxRecDepth 100000 in
theorem i26_7 : INS 26 7 = some (10, 3, 14, 0, .null, []) := rfl
set_option maxRecDepth 100000 in
theorem i26_10 : INS 26 10 = some (2, 1, 0, 0, .int 1, []) := rfl
set_option maxRecDepth 100000 in
theorem i26_11 : INS 26 11 = some (12, 3, 15, 0, .null, []) := rfl
set_option maxRecDepth 100000 in
theorem i26_14 : INS 26 14 = some (2, 1, 0, 0, .int 0, []) := rfl
set_option maxRecDepth 100000 in
theorem i26_15 : INS 26 15 = some (1, 2, 6, 0, .null, []) := rfl
set_option maxRecDepth 100000 in
theorem i26_17 : INS 26 17 = some (0, 1, 0, 2, .null, []) := rfl
set_option maxRecDepth 100000 in
theorem i26_18 : INS 26 18 = some (0, 1, 1, 0, .null, []) := rfl
set_option maxRecDepth 100000 in
theorem i26_19 : INS 26 19 = some (17, 3, 3, 0, .null, []) := rfl
set_option maxRecDepth 100000 in
theorem i26_22 : INS 26 22 = some (0, 1, 0, 2, .null, []) := rfl
set_option maxRecDepth 100000 in
theorem i26_23 : INS 26 23 = some (0, 2, 6, 0, .null, []) := rfl
set_option maxRecDepth 100000 in
theorem i26_25 : INS 26 25 = some (9, 3, 32, 0, .null, []) := rfl
set_option maxRecDepth 100000 in
theorem i26_28 : INS 26 28 = some (0, 1, 2, 0, .null, []) := rfl
set_option maxRecDepth 100000 in
theorem i26_29 : INS 26 29 = some (12, 3, 33, 0, .null, []) := rfl
set_option maxRecDepth 100000 in
theorem i26_32 : INS 26 32 = some (2, 1, 0, 0, .int 0, []) := rfl
set_option maxRecDepth 100000 in
theorem i26_33 : INS 26 33 = some (17, 3, 3, 1, .null, []) := rfl
set_option maxRecDepth 100000 in
theorem i26_36 : INS 26 36 = some (0, 1, 0, 2, .null, []) := rfl
set_option maxRecDepth 100000 in
theorem i26_37 : INS 26 37 = some (0, 1, 1, 0, .null, []) := rfl
set_option maxRecDepth 100000 in
theorem i26_38 : INS 26 38 = some (2, 1, 0, 0, .int 5, []) := rfl
set_option maxRecDepth 100000 in
theorem i26_39 : INS 26 39 = some (10, 3, 48, 0, .null, []) := rfl
set_option maxRecDepth 100000 in
theorem i26_42 : INS 26 42 = some (0, 1, 1, 0, .null, []) := rfl
set_option maxRecDepth 100000 in
theorem i26_43 : INS 26 43 = some (2, 2, 0, 0, .int 6, []) := rfl
set_option maxRecDepth 100000 in
theorem i26_45 : INS 26 45 = some (10, 3, 52, 1, .null, []) := rfl
set_option maxRecDepth 100000 in
theorem i26_48 : INS 26 48 = some (0, 1, 3, 0, .null, []) := rfl
set_option maxRecDepth 100000 in
theorem i26_49 : INS 26 49 = some (12, 3, 53, 0, .null, []) := rfl
set_option maxRecDepth 100000 in
theorem i26_52 : INS 26 52 = some (2, 1, 0, 0, .int 0, []) := rfl
set_option maxRecDepth 100000 in
theorem i26_53 : INS 26 53 = some (17, 3, 3, 2, .null, []) := rfl
set_option maxRecDepth 100000 in
theorem i26_56 : INS 26 56 = some (0, 1, 0, 2, .null, []) := rfl
set_option maxRecDepth 100000 in
theorem i26_57 : INS 26 57 = some (0, 1, 1, 0, .null, []) := rfl
set_option maxRecDepth 100000 in
theorem i26_58 : INS 26 58 = some (2, 1, 0, 0, .int 5, []) := rfl
set_option maxRecDepth 100000 in
theorem i26_59 : INS 26 59 = some (10, 3, 67, 1, .null, []) := rfl
set_option maxRecDepth 100000 in
theorem i26_62 : INS 26 62 = some (0, 2, 4, 0, .null, []) := rfl
set_option maxRecDepth 100000 in
theorem i26_64 : INS 26 64 = some (12, 3, 68, 0, .null, []) := rfl
set_option maxRecDepth 100000 in
theorem i26_67 : INS 26 67 = some (2, 1, 0, 0, .int 0, []) := rfl
set_option maxRecDepth 100000 in
theorem i26_68 : INS 26 68 = some (17, 3, 3, 3, .null, []) := rfl
set_option maxRecDepth 100000 in
theorem i26_71 : INS 26 71 = some (0, 1, 0, 2, .null, []) := rfl
set_option maxRecDepth 100000 in
theorem i26_72 : INS 26 72 = some (0, 1, 1, 0, .null, []) := rfl
set_option maxRecDepth 100000 in
theorem i26_73 : INS 26 73 = some (2, 2, 0, 0, .int 6, []) := rfl
set_option maxRecDepth 100000 in
theorem i26_75 : INS 26 75 = some (10, 3, 83, 1, .null, []) := rfl
set_option maxRecDepth 100000 in
theorem i26_78 : INS 26 78 = some (0, 2, 5, 2, .null, []) := rfl
set_option maxRecDepth 100000 in
theorem i26_80 : INS 26 80 = some (12, 3, 84, 0, .null, []) := rfl
set_option maxRecDepth 100000 in
theorem i26_83 : INS 26 83 = some (2, 1, 0, 0, .null, []) := rfl
set_option maxRecDepth 100000 in
theorem i26_84 : INS 26 84 = some (17, 3, 3, 4, .null, []) := rfl
set_option maxRecDepth 100000 in
theorem i26_87 : INS 26 87 = some (0, 1, 0, 2, .null, []) := rfl
set_option maxRecDepth 100000 in
theorem i26_88 : INS 26 88 = some (2, 1, 0, 0, .int 0, []) := rfl
set_option maxRecDepth 100000 in
theorem i26_89 : INS 26 89 = some (17, 3, 3, 5, .null, []) := rfl
set_option maxRecDepth 100000 in
theorem i26_92 : INS 26 92 = some (0, 1, 0, 2, .null, []) := rfl
set_option maxRecDepth 100000 in
theorem i26_93 : INS 26 93 = some (2, 1, 0, 0, .int 0, []) := rfl
set_option maxRecDepth 100000 in
theorem i26_94 : INS 26 94 = some (17, 3, 3, 6, .null, []) := rfl
set_option maxRecDepth 100000 in
theorem i26_97 : INS 26 97 = some (0, 1, 0, 2, .null, []) := rfl
set_option maxRecDepth 100000 in
theorem i26_98 : INS 26 98 = some (2, 1, 0, 0, .int 0, []) := rfl
set_option maxRecDepth 100000 in
theorem i26_99 : INS 26 99 = some (17, 3, 3, 7, .null, []) := rfl
set_option maxRecDepth 100000 in
theorem i26_102 : INS 26 102 = some (0, 1, 0, 2, .null, []) := rfl
set_option maxRecDepth 100000 in
theorem i26_103 : INS 26 103 = some (2, 1, 0, 0, .int 0, []) := rfl
set_option maxRecDepth 100000 in
theorem i26_104 : INS 26 104 = some (17, 3, 3, 8, .null, []) := rfl
set_option maxRecDepth 100000 in
theorem i26_107 : INS 26 107 = some (0, 1, 0, 2, .null, []) := rfl
set_option maxRecDepth 100000 in
theorem i26_108 : INS 26 108 = some (2, 1, 0, 0, .int 0, []) := rfl
set_option maxRecDepth 100000 in
theorem i26_109 : INS 26 109 = some (17, 3, 3, 9, .null, []) := rfl
set_option maxRecDepth 100000 in
theorem i26_112 : INS 26 112 = some (0, 1, 0, 2, .null, []) := rfl
set_option maxRecDepth 100000 in
theorem i26_113 : INS 26 113 = some (2, 1, 0, 0, .int 0, []) := rfl
set_option maxRecDepth 100000 in
theorem i26_114 : INS 26 114 = some (17, 3, 3, 10, .null, []) := rfl
set_option maxRecDepth 100000 in
theorem i26_117 : INS 26 117 = some (0, 1, 0, 2, .null, []) := rfl
set_option maxRecDepth 100000 in
theorem i26_118 : INS 26 118 = some (2, 1, 0, 0, .int 0, []) := rfl
set_option maxRecDepth 100000 in
theorem i26_119 : INS 26 119 = some (17, 3, 3, 11, .null, []) := rfl
set_option maxRecDepth 100000 in
theorem i26_122 : INS 26 122 = some (0, 1, 0, 2, .null, []) := rfl
set_option maxRecDepth 100000 in
theorem i26_123 : INS 26 123 = some (0, 1, 1, 0, .null, []) := rfl
set_option maxRecDepth 100000 in
theorem i26_124 : INS 26 124 = some (9, 3, 131, 1, .null, []) := rfl
set_option maxRecDepth 100000 in
theorem i26_127 : INS 26 127 = some (2, 1, 0, 0, .int 0, []) := rfl
set_option maxRecDepth 100000 in
theorem i26_128 : INS 26 128 = some (12, 3, 132, 0, .null, []) := rfl
set_option maxRecDepth 100000 in
theorem i26_131 : INS 26 131 = some (2, 1, 0, 0, .int 3, []) := rfl
set_option maxRecDepth 100000 in
theorem i26_132 : INS 26 132 = some (17, 3, 3, 12, .null, []) := rfl
set_option maxRecDepth 100000 in
theorem i26_135 : INS 26 135 = some (0, 1, 0, 2, .null, []) := rfl
set_option maxRecDepth 100000 in
theorem i26_136 : INS 26 136 = some (0, 1, 0, 2, .null, []) := rfl
set_option maxRecDepth 100000 in
theorem i26_137 : INS 26 137 = some (16, 3, 3, 12, .null, []) := rfl
set_option maxRecDepth 100000 in
theorem i26_140 : INS 26 140 = some (17, 3, 3, 13, .null, []) := rfl
set_option maxRecDepth 100000 in
theorem i26_143 : INS 26 143 = some (0, 1, 0, 2, .null, []) := rfl
set_option maxRecDepth 100000 in
theorem i26_144 : INS 26 144 = some (24, 3, 27, 0, .null, []) := rfl
set_option maxRecDepth 100000 in
theorem i26_147 : INS 26 147 = some (27, 1, 3, 0, .null, []) := rfl
set_option maxRecDepth 100000 in
theorem i27_0 : INS 27 0 = some (0, 1, 0, 2, .null, []) := rfl
set_option maxRecDepth 100000 in
theorem i27_1 : INS 27 1 = some (2, 1, 0, 0, .int 0, []) := rfl
set_option maxRecDepth 100000 in
theorem i27_2 : INS 27 2 = some (17, 3, 3, 14, .null, []) := rfl
set_option maxRecDepth 100000 in
theorem i27_5 : INS 27 5 = some (0, 1, 0, 2, .null, []) := rfl
set_option maxRecDepth 100000 in
theorem i27_6 : INS 27 6 = some (2, 1, 0, 0, .int 0, []) := rfl
set_option maxRecDepth 100000 in
theorem i27_7 : INS 27 7 = some (17, 3, 3, 15, .null, []) := rfl
set_option maxRecDepth 100000 in
theorem i27_10 : INS 27 10 = some (0, 1, 0, 2, .null, []) := rfl
set_option maxRecDepth 100000 in
theorem i27_11 : INS 27 11 = some (2, 1, 0, 0, .int 0, []) := rfl
set_option maxRecDepth 100000 in
theorem i27_12 : INS 27 12 = some (17, 3, 3, 16, .null, []) := rfl
set_option maxRecDepth 100000 in
theorem i27_15 : INS 27 15 = some (27, 1, 3, 0, .null, []) := rfl
set_option maxRecDepth 100000 in
theorem i28_0 : INS 28 0 = some (0, 1, 0, 2, .null, []) := rfl
set_option maxRecDepth 100000 in
theorem i28_1 : INS 28 1 = some (0, 1, 1, 2, .null, []) := rfl
set_option maxRecDepth 100000 in
theorem i28_2 : INS 28 2 = some (16, 3, 3, 0, .null, []) := rfl
set_option maxRecDepth 100000 in
theorem i28_5 : INS 28 5 = some (17, 3, 3, 0, .null, []) := rfl
set_option maxRecDepth 100000 in
theorem i28_8 : INS 28 8 = some (0, 1, 0, 2, .null, []) := rfl
set_option maxRecDepth 100000 in
theorem i28_9 : INS 28 9 = some (0, 1, 1, 2, .null, []) := rfl
set_option maxRecDepth 100000 in
theorem i28_10 : INS 28 10 = some (16, 3, 3, 1, .null, []) := rfl
set_option maxRecDepth 100000 in
theorem i28_13 : INS 28 13 = some (17, 3, 3, 1, .null, []) := rfl
set_option maxRecDepth 100000 in
theorem i28_16 : INS 28 16 = some (0, 1, 0, 2, .null, []) := rfl
set_option maxRecDepth 100000 in
theorem i28_17 : INS 28 17 = some (0, 1, 1, 2, .null, []) := rfl
set_option maxRecDepth 100000 in
theorem i28_18 : INS 28 18 = some (16, 3, 3, 2, .null, []) := rfl
set_option maxRecDepth 100000 in
theorem i28_21 : INS 28 21 = some (17, 3, 3, 2, .null, []) := rfl
set_option maxRecDepth 100000 in
theorem i28_24 : INS 28 24 = some (0, 1, 0, 2, .null, []) := rfl
set_option maxRecDepth 100000 in
theorem i28_25 : INS 28 25 = some (0, 1, 1, 2, .null, []) := rfl
set_option maxRecDepth 100000 in
theorem i28_26 : INS 28 26 = some (16, 3, 3, 3, .null, []) := rfl
set_option maxRecDepth 100000 in
theorem i28_29 : INS 28 29 = some (17, 3, 3, 3, .null, []) := rfl
set_option maxRecDepth 100000 in
theorem i28_32 : INS 28 32 = some (0, 1, 0, 2, .null, []) := rfl
set_option maxRecDepth 100000 in
theorem i28_33 : INS 28 33 = some (0, 1, 1, 2, .null, []) := rfl
set_option maxRecDepth 100000 in
theorem i28_34 : INS 28 34 = some (16, 3, 3, 4, .null, []) := rfl
set_option maxRecDepth 100000 in
theorem i28_37 : INS 28 37 = some (17, 3, 3, 4, .null, []) := rfl
set_option maxRecDepth 100000 in
theorem i28_40 : INS 28 40 = some (0, 1, 0, 2, .null, []) := rfl
set_option maxRecDepth 100000 in
theorem i28_41 : INS 28 41 = some (0, 1, 1, 2, .null, []) := rfl
set_option maxRecDepth 100000 in
theorem i28_42 : INS 28 42 = some (16, 3, 3, 5, .null, []) := rfl
set_option maxRecDepth 100000 in
theorem i28_45 : INS 28 45 = some (17, 3, 3, 5, .null, []) := rfl
set_option maxRecDepth 100000 in
theorem i28_48 : INS 28 48 = some (0, 1, 0, 2, .null, []) := rfl
set_option maxRecDepth 100000 in
theorem i28_49 : INS 28 49 = some (0, 1, 1, 2, .null, []) := rfl
set_option maxRecDepth 100000 in
theorem i28_50 : INS 28 50 = some (16, 3, 3, 6, .null, []) := rfl
set_option maxRecDepth 100000 in
theorem i28_53 : INS 28 53 = some (17, 3, 3, 6, .null, []) := rfl
set_option maxRecDepth 100000 in
theorem i28_56 : INS 28 56 = some (0, 1, 0, 2, .null, []) := rfl
set_option maxRecDepth 100000 in
theorem i28_57 : INS 28 57 = some (0, 1, 1, 2, .null, []) := rfl
set_option maxRecDepth 100000 in
theorem i28_58 : INS 28 58 = some (16, 3, 3, 7, .null, []) := rfl
set_option maxRecDepth 100000 in
theorem i28_61 : INS 28 61 = some (17, 3, 3, 7, .null, []) := rfl
set_option maxRecDepth 100000 in
theorem i28_64 : INS 28 64 = some (0, 1, 0, 2, .null, []) := rfl
set_option maxRecDepth 100000 in
theorem i28_65 : INS 28 65 = some (0, 1, 1, 2, .null, []) := rfl
set_option maxRecDepth 100000 in
theorem i28_66 : INS 28 66 = some (16, 3, 3, 8, .null, []) := rfl
set_option maxRecDepth 100000 in
theorem i28_69 : INS 28 69 = some (17, 3, 3, 8, .null, []) := rfl
set_option maxRecDepth 100000 in
theorem i28_72 : INS 28 72 = some (0, 1, 0, 2, .null, []) := rfl
set_option maxRecDepth 100000 in
theorem i28_73 : INS 28 73 = some (0, 1, 1, 2, .null, []) := rfl
set_option maxRecDepth 100000 in
theorem i28_74 : INS 28 74 = some (16, 3, 3, 9, .null, []) := rfl
set_option maxRecDepth 100000 in
theorem i28_77 : INS 28 77 = some (17, 3, 3, 9, .null, []) := rfl
set_option maxRecDepth 100000 in
theorem i28_80 : INS 28 80 = some (0, 1, 0, 2, .null, []) := rfl
set_option maxRecDepth 100000 in
theorem i28_81 : INS 28 81 = some (0, 1, 1, 2, .null, []) := rfl
set_option maxRecDepth 100000 in
theorem i28_82 : INS 28 82 = some (16, 3, 3, 10, .null, []) := rfl
set_option maxRecDepth 100000 in
theorem i28_85 : INS 28 85 = some (17, 3, 3, 10, .null, []) := rfl
set_option maxRecDepth 100000 in
theorem i28_88 : INS 28 88 = some (0, 1, 0, 2, .null, []) := rfl
set_option maxRecDepth 100000 in
theorem i28_89 : INS 28 89 = some (0, 1, 1, 2, .null, []) := rfl
set_option maxRecDepth 100000 in
theorem i28_90 : INS 28 90 = some (16, 3, 3, 11, .null, []) := rfl
set_option maxRecDepth 100000 in
theorem i28_93 : INS 28 93 = some (17, 3, 3, 11, .null, []) := rfl
set_option maxRecDepth 100000 in
theorem i28_96 : INS 28 96 = some (0, 1, 0, 2, .null, []) := rfl
set_option maxRecDepth 100000 in
theorem i28_97 : INS 28 97 = some (0, 1, 1, 2, .null, []) := rfl
set_option maxRecDepth 100000 in
theorem i28_98 : INS 28 98 = some (16, 3, 3, 12, .null, []) := rfl
set_option maxRecDepth 100000 in
theorem i28_101 : INS 28 101 = some (17, 3, 3, 12, .null, []) := rfl
set_option maxRecDepth 100000 in
theorem i28_104 : INS 28 104 = some (0, 1, 0, 2, .null, []) := rfl
set_option maxRecDepth 100000 in
theorem i28_105 : INS 28 105 = some (0, 1, 1, 2, .null, []) := rfl
set_option maxRecDepth 100000 in
theorem i28_106 : INS 28 106 = some (16, 3, 3, 13, .null, []) := rfl
set_option maxRecDepth 100000 in
theorem i28_109 : INS 28 109 = some (17, 3, 3, 13, .null, []) := rfl
set_option maxRecDepth 100000 in
theorem i28_112 : INS 28 112 = some (0, 1, 0, 2, .null, []) := rfl
set_option maxRecDepth 100000 in
theorem i28_113 : INS 28 113 = some (0, 1, 1, 2, .null, []) := rfl
set_option maxRecDepth 100000 in
theorem i28_114 : INS 28 114 = some (16, 3, 3, 14, .null, []) := rfl
set_option maxRecDepth 100000 in
theorem i28_117 : INS 28 117 = some (17, 3, 3, 14, .null, []) := rfl
set_option maxRecDepth 100000 in
theorem i28_120 : INS 28 120 = some (0, 1, 0, 2, .null, []) := rfl
set_option maxRecDepth 100000 in
theorem i28_121 : INS 28 121 = some (0, 1, 1, 2, .null, []) := rfl
set_option maxRecDepth 100000 in
theorem i28_122 : INS 28 122 = some (16, 3, 3, 15, .null, []) := rfl
set_option maxRecDepth 100000 in
theorem i28_125 : INS 28 125 = some (17, 3, 3, 15, .null, []) := rfl
set_option maxRecDepth 100000 in
theorem i28_128 : INS 28 128 = some (0, 1, 0, 2, .null, []) := rfl
set_option maxRecDepth 100000 in
theorem i28_129 : INS 28 129 = some (0, 1, 1, 2, .null, []) := rfl
set_option maxRecDepth 100000 in
theorem i28_130 : INS 28 130 = some (16, 3, 3, 16, .null, []) := rfl
set_option maxRecDepth 100000 in
theorem i28_133 : INS 28 133 = some (17, 3, 3, 16, .null, []) := rfl
set_option maxRecDepth 100000 in
theorem i28_136 : INS 28 136 = some (27, 1, 3, 0, .null, []) := rfl
set_option maxRecDepth 100000 in
theorem i29_0 : INS 29 0 = some (0, 1, 0, 2, .null, []) := rfl
set_option maxRecDepth 100000 in
theorem i29_1 : INS 29 1 = some (16, 3, 3, 0, .null, []) := rfl
set_option maxRecDepth 100000 in
theorem i29_4 : INS 29 4 = some (9, 3, 16, 0, .null, []) := rfl
set_option maxRecDepth 100000 in
theorem i29_7 : INS 29 7 = some (0, 1, 0, 2, .null, []) := rfl
set_option maxRecDepth 100000 in
theorem i29_8 : INS 29 8 = some (16, 3, 3, 0, .null, []) := rfl
set_option maxRecDepth 100000 in
theorem i29_11 : INS 29 11 = some (2, 2, 0, 0, .int 7, []) := rfl
set_option maxRecDepth 100000 in
theorem i29_13 : INS 29 13 = some (10, 3, 18, 1, .null, []) := rfl
set_option maxRecDepth 100000 in
theorem i29_16 : INS 29 16 = some (2, 1, 0, 0, .int 0, []) := rfl
set_option maxRecDepth 100000 in
theorem i29_17 : INS 29 17 = some (27, 1, 0, 0, .null, []) := rfl
set_option maxRecDepth 100000 in
theorem i29_18 : INS 29 18 = some (0, 1, 0, 2, .null, []) := rfl
set_option maxRecDepth 100000 in
theorem i29_19 : INS 29 19 = some (16, 3, 3, 0, .null, []) := rfl
set_option maxRecDepth 100000 in
theorem i29_22 : INS 29 22 = some (2, 1, 0, 0, .int 4, []) := rfl
set_option maxRecDepth 100000 in
theorem i29_23 : INS 29 23 = some (10, 3, 46, 1, .null, []) := rfl
set_option maxRecDepth 100000 in
theorem i29_26 : INS 29 26 = some (0, 1, 0, 2, .null, []) := rfl
set_option maxRecDepth 100000 in
theorem i29_27 : INS 29 27 = some (16, 3, 3, 1, .null, []) := rfl
set_option maxRecDepth 100000 in
theorem i29_30 : INS 29 30 = some (0, 1, 1, 0, .null, []) := rfl
set_option maxRecDepth 100000 in
theorem i29_31 : INS 29 31 = some (3, 1, 9, 0, .null, []) := rfl
set_option maxRecDepth 100000 in
theorem i29_32 : INS 29 32 = some (2, 1, 0, 0, .int 1, []) := rfl
set_option maxRecDepth 100000 in
theorem i29_33 : INS 29 33 = some (3, 1, 5, 0, .null, []) := rfl
set_option maxRecDepth 100000 in
theorem i29_34 : INS 29 34 = some (2, 1, 0, 0, .int 1, []) := rfl
set_option maxRecDepth 100000 in
theorem i29_35 : INS 29 35 = some (10, 3, 42, 1, .null, []) := rfl
set_option maxRecDepth 100000 in
theorem i29_38 : INS 29 38 = some (2, 1, 0, 0, .int 1, []) := rfl
set_option maxRecDepth 100000 in
theorem i29_39 : INS 29 39 = some (12, 3, 59, 0, .null, []) := rfl
set_option maxRecDepth 100000 in
theorem i29_42 : INS 29 42 = some (2, 1, 0, 0, .int 0, []) := rfl
set_option maxRecDepth 100000 in
theorem i29_43 : INS 29 43 = some (12, 3, 59, 0, .null, []) := rfl
set_option maxRecDepth 100000 in
theorem i29_46 : INS 29 46 = some (0, 1, 0, 2, .null, []) := rfl
set_option maxRecDepth 100000 in
theorem i29_47 : INS 29 47 = some (16, 3, 3, 1, .null, []) := rfl
set_option maxRecDepth 100000 in
theorem i29_50 : INS 29 50 = some (0, 1, 1, 0, .null, []) := rfl
set_option maxRecDepth 100000 in
theorem i29_51 : INS 29 51 = some (10, 3, 58, 1, .null, []) := rfl
set_option maxRecDepth 100000 in
theorem i29_54 : INS 29 54 = some (2, 1, 0, 0, .int 1, []) := rfl
set_option maxRecDepth 100000 in
theorem i29_55 : INS 29 55 = some (12, 3, 59, 0, .null, []) := rfl
set_option maxRecDepth 100000 in
theorem i29_58 : INS 29 58 = some (2, 1, 0, 0, .int 0, []) := rfl
set_option maxRecDepth 100000 in
theorem i29_59 : INS 29 59 = some (27, 1, 0, 0, .null, []) := rfl
set_option maxRecDepth 100000 in
theorem i30_0 : INS 30 0 = some (0, 1, 0, 2, .null, []) := rfl
set_option maxRecDepth 100000 in
theorem i30_1 : INS 30 1 = some (16, 3, 3, 0, .null, []) := rfl
set_option maxRecDepth 100000 in
theorem i30_4 : INS 30 4 = some (2, 1, 0, 0, .int 5, []) := rfl
set_option maxRecDepth 100000 in
theorem i30_5 : INS 30 5 = some (10, 3, 19, 1, .null, []) := rfl
set_option maxRecDepth 100000 in
theorem i30_8 : INS 30 8 = some (0, 1, 0, 2, .null, []) := rfl
set_option maxRecDepth 100000 in
theorem i30_9 : INS 30 9 = some (16, 3, 3, 5, .null, []) := rfl
set_option maxRecDepth 100000 in
theorem i30_12 : INS 30 12 = some (9, 3, 19, 1, .null, []) := rfl
set_option maxRecDepth 100000 in
theorem i30_15 : INS 30 15 = some (0, 1, 0, 2, .null, []) := rfl
set_option maxRecDepth 100000 in
theorem i30_16 : INS 30 16 = some (24, 3, 31, 0, .null, []) := rfl
set_option maxRecDepth 100000 in
theorem i30_19 : INS 30 19 = some (0, 1, 0, 2, .null, []) := rfl
set_option maxRecDepth 100000 in
theorem i30_20 : INS 30 20 = some (16, 3, 3, 4, .null, []) := rfl
set_option maxRecDepth 100000 in
theorem i30_23 : INS 30 23 = some (11, 3, 48, 0, .null, []) := rfl
set_option maxRecDepth 100000 in
theorem i30_26 : INS 30 26 = some (0, 1, 0, 2, .null, []) := rfl
set_option maxRecDepth 100000 in
theorem i30_27 : INS 30 27 = some (16, 3, 3, 11, .null, []) := rfl
set_option maxRecDepth 100000 in
theorem i30_30 : INS 30 30 = some (9, 3, 37, 0, .null, []) := rfl
set_option maxRecDepth 100000 in
theorem i30_33 : INS 30 33 = some (0, 1, 0, 2, .null, []) := rfl
set_option maxRecDepth 100000 in
theorem i30_34 : INS 30 34 = some (24, 3, 32, 0, .null, []) := rfl
set_option maxRecDepth 100000 in
theorem i30_37 : INS 30 37 = some (0, 1, 0, 2, .null, []) := rfl
set_option maxRecDepth 100000 in
theorem i30_38 : INS 30 38 = some (16, 3, 3, 11, .null, []) := rfl
set_option maxRecDepth 100000 in
theorem i30_41 : INS 30 41 = some (9, 3, 48, 1, .null, []) := rfl
set_option maxRecDepth 100000 in
theorem i30_44 : INS 30 44 = some (0, 1, 0, 2, .null, []) := rfl
set_option maxRecDepth 100000 in
theorem i30_45 : INS 30 45 = some (24, 3, 33, 0, .null, []) := rfl
set_option maxRecDepth 100000 in
theorem i30_48 : INS 30 48 = some (27, 1, 3, 0, .null, []) := rfl
set_option maxRecDepth 100000 in
theorem i31_0 : INS 31 0 = some (0, 1, 0, 2, .null, []) := rfl
set_option maxRecDepth 100000 in
theorem i31_1 : INS 31 1 = some (8, 1, 0, 0, .null, []) := rfl
set_option maxRecDepth 100000 in
theorem i31_2 : INS 31 2 = some (16, 3, 3, 6, .null, []) := rfl
set_option maxRecDepth 100000 in
theorem i31_5 : INS 31 5 = some (2, 1, 0, 0, .int 1, []) := rfl
set_option maxRecDepth 100000 in
theorem i31_6 : INS 31 6 = some (3, 1, 0, 0, .null, []) := rfl
set_option maxRecDepth 100000 in
theorem i31_7 : INS 31 7 = some (17, 3, 3, 6, .null, []) := rfl
set_option maxRecDepth 100000 in
theorem i31_10 : INS 31 10 = some (0, 1, 0, 2, .null, []) := rfl
set_option maxRecDepth 100000 in
theorem i31_11 : INS 31 11 = some (16, 3, 3, 6, .null, []) := rfl
set_option maxRecDepth 100000 in
theorem i31_14 : INS 31 14 = some (0, 1, 0, 2, .null, []) := rfl
set_option maxRecDepth 100000 in
theorem i31_15 : INS 31 15 = some (16, 3, 3, 3, .null, []) := rfl
set_option maxRecDepth 100000 in
theorem i31_18 : INS 31 18 = some (10, 3, 34, 2, .null, []) := rfl
set_option maxRecDepth 100000 in
theorem i31_21 : INS 31 21 = some (0, 1, 0, 2, .null, []) := rfl
set_option maxRecDepth 100000 in
theorem i31_22 : INS 31 22 = some (0, 1, 0, 2, .null, []) := rfl
set_option maxRecDepth 100000 in
theorem i31_23 : INS 31 23 = some (16, 3, 3, 2, .null, []) := rfl
set_option maxRecDepth 100000 in
theorem i31_26 : INS 31 26 = some (17, 3, 3, 5, .null, []) := rfl
set_option maxRecDepth 100000 in
theorem i31_29 : INS 31 29 = some (0, 1, 0, 2, .null, []) := rfl
set_option maxRecDepth 100000 in
theorem i31_30 : INS 31 30 = some (2, 1, 0, 0, .int 0, []) := rfl
set_option maxRecDepth 100000 in
theorem i31_31 : INS 31 31 = some (17, 3, 3, 6, .null, []) := rfl
set_option maxRecDepth 100000 in
theorem i31_34 : INS 31 34 = some (27, 1, 3, 0, .null, []) := rfl
set_option maxRecDepth 100000 in
theorem i32_0 : INS 32 0 = some (0, 1, 0, 2, .null, []) := rfl
set_option maxRecDepth 100000 in
theorem i32_1 : INS 32 1 = some (8, 1, 0, 0, .null, []) := rfl
set_option maxRecDepth 100000 in
theorem i32_2 : INS 32 2 = some (16, 3, 3, 10, .null, []) := rfl
set_option maxRecDepth 100000 in
theorem i32_5 : INS 32 5 = some (2, 1, 0, 0, .int 1, []) := rfl
set_option maxRecDepth 100000 in
theorem i32_6 : INS 32 6 = some (3, 1, 0, 0, .null, []) := rfl
set_option maxRecDepth 100000 in
theorem i32_7 : INS 32 7 = some (17, 3, 3, 10, .null, []) := rfl
set_option maxRecDepth 100000 in
theorem i32_10 : INS 32 10 = some (0, 1, 0, 2, .null, []) := rfl
set_option maxRecDepth 100000 in
theorem i32_11 : INS 32 11 = some (16, 3, 3, 10, .null, []) := rfl
set_option maxRecDepth 100000 in
theorem i32_14 : INS 32 14 = some (0, 1, 0, 2, .null, []) := rfl
set_option maxRecDepth 100000 in
theorem i32_15 : INS 32 15 = some (16, 3, 3, 4, .null, []) := rfl
set_option maxRecDepth 100000 in
theorem i32_18 : INS 32 18 = some (16, 3, 6, 2, .null, []) := rfl
set_option maxRecDepth 100000 in
theorem i32_21 : INS 32 21 = some (10, 3, 60, 2, .null, []) := rfl
set_option maxRecDepth 100000 in
theorem i32_24 : INS 32 24 = some (0, 1, 0, 2, .null, []) := rfl
set_option maxRecDepth 100000 in
theorem i32_25 : INS 32 25 = some (8, 1, 0, 0, .null, []) := rfl
set_option maxRecDepth 100000 in
theorem i32_26 : INS 32 26 = some (16, 3, 3, 9, .null, []) := rfl
set_option maxRecDepth 100000 in
theorem i32_29 : INS 32 29 = some (0, 1, 0, 2, .null, []) := rfl
set_option maxRecDepth 100000 in
theorem i32_30 : INS 32 30 = some (16, 3, 3, 4, .null, []) := rfl
set_option maxRecDepth 100000 in
theorem i32_33 : INS 32 33 = some (16, 3, 6, 1, .null, []) := rfl
set_option maxRecDepth 100000 in
theorem i32_36 : INS 32 36 = some (3, 1, 0, 0, .null, []) := rfl
set_option maxRecDepth 100000 in
theorem i32_37 : INS 32 37 = some (17, 3, 3, 9, .null, []) := rfl
set_option maxRecDepth 100000 in
theorem i32_40 : INS 32 40 = some (0, 1, 0, 2, .null, []) := rfl
set_option maxRecDepth 100000 in
theorem i32_41 : INS 32 41 = some (2, 1, 0, 0, .int 0, []) := rfl
set_option maxRecDepth 100000 in
theorem i32_42 : INS 32 42 = some (17, 3, 3, 11, .null, []) := rfl
set_option maxRecDepth 100000 in
theorem i32_45 : INS 32 45 = some (0, 1, 0, 2, .null, []) := rfl
set_option maxRecDepth 100000 in
theorem i32_46 : INS 32 46 = some (2, 1, 0, 0, .int 0, []) := rfl
set_option maxRecDepth 100000 in
theorem i32_47 : INS 32 47 = some (17, 3, 3, 10, .null, []) := rfl
set_option maxRecDepth 100000 in
theorem i32_50 : INS 32 50 = some (0, 1, 0, 2, .null, []) := rfl
set_option maxRecDepth 100000 in
theorem i32_51 : INS 32 51 = some (8, 1, 0, 0, .null, []) := rfl
set_option maxRecDepth 100000 in
theorem i32_52 : INS 32 52 = some (16, 3, 3, 16, .null, []) := rfl
set_option maxRecDepth 100000 in
theorem i32_55 : INS 32 55 = some (2, 1, 0, 0, .int 1, []) := rfl
set_option maxRecDepth 100000 in
theorem i32_56 : INS 32 56 = some (3, 1, 0, 0, .null, []) := rfl
set_option maxRecDepth 100000 in
theorem i32_57 : INS 32 57 = some (17, 3, 3, 16, .null, []) := rfl
set_option maxRecDepth 100000 in
theorem i32_60 : INS 32 60 = some (27, 1, 3, 0, .null, []) := rfl
set_option maxRecDepth 100000 in
theorem i33_0 : INS 33 0 = some (0, 1, 0, 2, .null, []) := rfl
set_option maxRecDepth 100000 in
theorem i33_1 : INS 33 1 = some (16, 3, 3, 9, .null, []) := rfl
set_option maxRecDepth 100000 in
theorem i33_4 : INS 33 4 = some (0, 1, 0, 2, .null, []) := rfl
set_option maxRecDepth 100000 in
theorem i33_5 : INS 33 5 = some (16, 3, 3, 4, .null, []) := rfl
set_option maxRecDepth 100000 in
theorem i33_8 : INS 33 8 = some (16, 3, 6, 1, .null, []) := rfl
set_option maxRecDepth 100000 in
theorem i33_11 : INS 33 11 = some (10, 3, 84, 4, .null, []) := rfl
set_option maxRecDepth 100000 in
theorem i33_14 : INS 33 14 = some (0, 1, 0, 2, .null, []) := rfl
set_option maxRecDepth 100000 in
theorem i33_15 : INS 33 15 = some (16, 3, 3, 7, .null, []) := rfl
set_option maxRecDepth 100000 in
theorem i33_18 : INS 33 18 = some (0, 1, 0, 2, .null, []) := rfl
set_option maxRecDepth 100000 in
theorem i33_19 : INS 33 19 = some (16, 3, 3, 4, .null, []) := rfl
set_option maxRecDepth 100000 in
theorem i33_22 : INS 33 22 = some (16, 3, 6, 5, .null, []) := rfl
set_option maxRecDepth 100000 in
theorem i33_25 : INS 33 25 = some (10, 3, 84, 2, .null, []) := rfl
set_option maxRecDepth 100000 in
theorem i33_28 : INS 33 28 = some (0, 1, 0, 2, .null, []) := rfl
set_option maxRecDepth 100000 in
theorem i33_29 : INS 33 29 = some (16, 3, 3, 8, .null, []) := rfl
set_option maxRecDepth 100000 in
theorem i33_32 : INS 33 32 = some (0, 1, 0, 2, .null, []) := rfl
set_option maxRecDepth 100000 in
theorem i33_33 : INS 33 33 = some (16, 3, 3, 4, .null, []) := rfl
set_option maxRecDepth 100000 in
theorem i33_36 : INS 33 36 = some (16, 3, 6, 7, .null, []) := rfl
set_option maxRecDepth 100000 in
theorem i33_39 : INS 33 39 = some (10, 3, 84, 2, .null, []) := rfl
set_option maxRecDepth 100000 in
theorem i33_42 : INS 33 42 = some (0, 1, 0, 2, .null, []) := rfl
set_option maxRecDepth 100000 in
theorem i33_43 : INS 33 43 = some (8, 1, 0, 0, .null, []) := rfl
set_option maxRecDepth 100000 in
theorem i33_44 : INS 33 44 = some (16, 3, 3, 7, .null, []) := rfl
set_option maxRecDepth 100000 in
theorem i33_47 : INS 33 47 = some (0, 1, 0, 2, .null, []) := rfl
set_option maxRecDepth 100000 in
theorem i33_48 : INS 33 48 = some (16, 3, 3, 4, .null, []) := rfl
set_option maxRecDepth 100000 in
theorem i33_51 : INS 33 51 = some (16, 3, 6, 5, .null, []) := rfl
set_option maxRecDepth 100000 in
theorem i33_54 : INS 33 54 = some (3, 1, 1, 0, .null, []) := rfl
set_option maxRecDepth 100000 in
theorem i33_55 : INS 33 55 = some (17, 3, 3, 7, .null, []) := rfl
set_option maxRecDepth 100000 in
theorem i33_58 : INS 33 58 = some (0, 1, 0, 2, .null, []) := rfl
set_option maxRecDepth 100000 in
theorem i33_59 : INS 33 59 = some (8, 1, 0, 0, .null, []) := rfl
set_option maxRecDepth 100000 in
theorem i33_60 : INS 33 60 = some (16, 3, 3, 8, .null, []) := rfl
set_option maxRecDepth 100000 in
theorem i33_63 : INS 33 63 = some (0, 1, 0, 2, .null, []) := rfl
set_option maxRecDepth 100000 in
theorem i33_64 : INS 33 64 = some (16, 3, 3, 4, .null, []) := rfl
set_option maxRecDepth 100000 in
theorem i33_67 : INS 33 67 = some (16, 3, 6, 7, .null, []) := rfl
set_option maxRecDepth 100000 in
theorem i33_70 : INS 33 70 = some (3, 1, 1, 0, .null, []) := rfl
set_option maxRecDepth 100000 in
theorem i33_71 : INS 33 71 = some (17, 3, 3, 8, .null, []) := rfl
set_option maxRecDepth 100000 in
theorem i33_74 : INS 33 74 = some (0, 1, 0, 2, .null, []) := rfl
set_option maxRecDepth 100000 in
theorem i33_75 : INS 33 75 = some (2, 1, 0, 0, .int 1, []) := rfl
set_option maxRecDepth 100000 in
theorem i33_76 : INS 33 76 = some (17, 3, 3, 11, .null, []) := rfl
set_option maxRecDepth 100000 in
theorem i33_79 : INS 33 79 = some (0, 1, 0, 2, .null, []) := rfl
set_option maxRecDepth 100000 in
theorem i33_80 : INS 33 80 = some (2, 1, 0, 0, .int 0, []) := rfl
set_option maxRecDepth 100000 in
theorem i33_81 : INS 33 81 = some (17, 3, 3, 10, .null, []) := rfl
set_option maxRecDepth 100000 in
theorem i33_84 : INS 33 84 = some (27, 1, 3, 0, .null, []) := rfl
set_option maxRecDepth 100000 in
theorem i34_0 : INS 34 0 = some (0, 1, 0, 2, .null, []) := rfl
set_option maxRecDepth 100000 in
theorem i34_1 : INS 34 1 = some (16, 3, 3, 4, .null, []) := rfl
set_option maxRecDepth 100000 in
theorem i34_4 : INS 34 4 = some (11, 3, 26, 0, .null, []) := rfl
set_option maxRecDepth 100000 in
theorem i34_7 : INS 34 7 = some (0, 1, 0, 2, .null, []) := rfl
set_option maxRecDepth 100000 in
theorem i34_8 : INS 34 8 = some (16, 3, 3, 9, .null, []) := rfl
set_option maxRecDepth 100000 in
theorem i34_11 : INS 34 11 = some (9, 3, 24, 5, .null, []) := rfl
set_option maxRecDepth 100000 in
theorem i34_14 : INS 34 14 = some (0, 1, 0, 2, .null, []) := rfl
set_option maxRecDepth 100000 in
theorem i34_15 : INS 34 15 = some (16, 3, 3, 4, .null, []) := rfl
set_option maxRecDepth 100000 in
theorem i34_18 : INS 34 18 = some (16, 3, 6, 0, .null, []) := rfl
set_option maxRecDepth 100000 in
theorem i34_21 : INS 34 21 = some (12, 3, 25, 0, .null, []) := rfl
set_option maxRecDepth 100000 in
theorem i34_24 : INS 34 24 = some (2, 1, 0, 0, .int 0, []) := rfl
set_option maxRecDepth 100000 in
theorem i34_25 : INS 34 25 = some (27, 1, 0, 0, .null, []) := rfl
set_option maxRecDepth 100000 in
theorem i34_26 : INS 34 26 = some (0, 1, 0, 2, .null, []) := rfl
set_option maxRecDepth 100000 in
theorem i34_27 : INS 34 27 = some (16, 3, 3, 5, .null, []) := rfl
set_option maxRecDepth 100000 in
theorem i34_30 : INS 34 30 = some (27, 1, 0, 0, .null, []) := rfl
set_option maxRecDepth 100000 in
theorem i35_0 : INS 35 0 = some (0, 1, 0, 2, .null, []) := rfl
set_option maxRecDepth 100000 in
theorem i35_1 : INS 35 1 = some (16, 3, 3, 0, .null, []) := rfl
set_option maxRecDepth 100000 in
theorem i35_4 : INS 35 4 = some (13, 44, 93, 1, .null, [48, 48, 93, 48, 93, 69, 91]) := rfl
set_option maxRecDepth 100000 in
theorem i35_48 : INS 35 48 = some (0, 1, 0, 2, .null, []) := rfl
set_option maxRecDepth 100000 in
theorem i35_49 : INS 35 49 = some (16, 3, 3, 5, .null, []) := rfl
set_option maxRecDepth 100000 in
theorem i35_52 : INS 35 52 = some (9, 3, 67, 1, .null, []) := rfl
set_option maxRecDepth 100000 in
theorem i35_55 : INS 35 55 = some (0, 1, 0, 2, .null, []) := rfl
set_option maxRecDepth 100000 in
theorem i35_56 : INS 35 56 = some (0, 1, 2, 0, .null, []) := rfl
set_option maxRecDepth 100000 in
theorem i35_57 : INS 35 57 = some (24, 3, 29, 0, .null, []) := rfl
set_option maxRecDepth 100000 in
theorem i35_60 : INS 35 60 = some (9, 3, 67, 1, .null, []) := rfl
set_option maxRecDepth 100000 in
theorem i35_63 : INS 35 63 = some (2, 1, 0, 0, .int 1, []) := rfl
set_option maxRecDepth 100000 in
theorem i35_64 : INS 35 64 = some (12, 3, 68, 0, .null, []) := rfl
set_option maxRecDepth 100000 in
theorem i35_67 : INS 35 67 = some (2, 1, 0, 0, .int 0, []) := rfl
set_option maxRecDepth 100000 in
theorem i35_68 : INS 35 68 = some (27, 1, 0, 0, .null, []) := rfl
set_option maxRecDepth 100000 in
theorem i35_69 : INS 35 69 = some (0, 1, 0, 2, .null, []) := rfl
set_option maxRecDepth 100000 in
theorem i35_70 : INS 35 70 = some (0, 1, 2, 0, .null, []) := rfl
set_option maxRecDepth 100000 in
theorem i35_71 : INS 35 71 = some (24, 3, 29, 0, .null, []) := rfl
set_option maxRecDepth 100000 in
theorem i35_74 : INS 35 74 = some (9, 3, 89, 1, .null, []) := rfl
set_option maxRecDepth 100000 in
theorem i35_77 : INS 35 77 = some (0, 1, 0, 2, .null, []) := rfl
set_option maxRecDepth 100000 in
theorem i35_78 : INS 35 78 = some (0, 1, 1, 0, .null, []) := rfl
set_option maxRecDepth 100000 in
theorem i35_79 : INS 35 79 = some (24, 3, 36, 0, .null, []) := rfl
set_option maxRecDepth 100000 in
theorem i35_82 : INS 35 82 = some (9, 3, 89, 0, .null, []) := rfl
set_option maxRecDepth 100000 in
theorem i35_85 : INS 35 85 = some (2, 1, 0, 0, .int 1, []) := rfl
set_option maxRecDepth 100000 in
theorem i35_86 : INS 35 86 = some (12, 3, 90, 0, .null, []) := rfl
set_option maxRecDepth 100000 in
theorem i35_89 : INS 35 89 = some (2, 1, 0, 0, .int 0, []) := rfl
set_option maxRecDepth 100000 in
theorem i35_90 : INS 35 90 = some (27, 1, 0, 0, .null, []) := rfl
set_option maxRecDepth 100000 in
theorem i35_91 : INS 35 91 = some (2, 1, 0, 0, .int 1, []) := rfl
set_option maxRecDepth 100000 in
theorem i35_92 : INS 35 92 = some (27, 1, 0, 0, .null, []) := rfl
set_option maxRecDepth 100000 in
theorem i35_93 : INS 35 93 = some (2, 1, 0, 0, .int 0, []) := rfl
set_option maxRecDepth 100000 in
theorem i35_94 : INS 35 94 = some (27, 1, 0, 0, .null, []) := rfl
set_option maxRecDepth 100000 in
theorem i36_0 : INS 36 0 = some (0, 1, 0, 2, .null, []) := rfl
set_option maxRecDepth 100000 in
theorem i36_1 : INS 36 1 = some (16, 3, 3, 4, .null, []) := rfl
set_option maxRecDepth 100000 in
theorem i36_4 : INS 36 4 = some (11, 3, 11, 0, .null, []) := rfl
set_option maxRecDepth 100000 in
theorem i36_7 : INS 36 7 = some (0, 1, 1, 0, .null, []) := rfl
set_option maxRecDepth 100000 in
theorem i36_8 : INS 36 8 = some (9, 3, 13, 1, .null, []) := rfl
set_option maxRecDepth 100000 in
theorem i36_11 : INS 36 11 = some (2, 1, 0, 0, .int 0, []) := rfl
set_option maxRecDepth 100000 in
theorem i36_12 : INS 36 12 = some (27, 1, 0, 0, .null, []) := rfl
set_option maxRecDepth 100000 in
theorem i36_13 : INS 36 13 = some (0, 1, 1, 0, .null, []) := rfl
set_option maxRecDepth 100000 in
theorem i36_14 : INS 36 14 = some (0, 1, 0, 2, .null, []) := rfl
set_option maxRecDepth 100000 in
theorem i36_15 : INS 36 15 = some (16, 3, 3, 4, .null, []) := rfl
set_option maxRecDepth 100000 in
theorem i36_18 : INS 36 18 = some (16, 3, 6, 4, .null, []) := rfl
set_option maxRecDepth 100000 in
theorem i36_21 : INS 36 21 = some (10, 3, 46, 1, .null, []) := rfl
set_option maxRecDepth 100000 in
theorem i36_24 : INS 36 24 = some (0, 1, 0, 2, .null, []) := rfl
set_option maxRecDepth 100000 in
theorem i36_25 : INS 36 25 = some (16, 3, 3, 7, .null, []) := rfl
set_option maxRecDepth 100000 in
theorem i36_28 : INS 36 28 = some (2, 1, 0, 0, .int 2, []) := rfl
set_option maxRecDepth 100000 in
theorem i36_29 : INS 36 29 = some (0, 1, 0, 2, .null, []) := rfl
set_option maxRecDepth 100000 in
theorem i36_30 : INS 36 30 = some (16, 3, 3, 4, .null, []) := rfl
set_option maxRecDepth 100000 in
theorem i36_33 : INS 36 33 = some (16, 3, 6, 5, .null, []) := rfl
set_option maxRecDepth 100000 in
theorem i36_36 : INS 36 36 = some (3, 1, 2, 0, .null, []) := rfl
set_option maxRecDepth 100000 in
theorem i36_37 : INS 36 37 = some (10, 3, 44, 3, .null, []) := rfl
set_option maxRecDepth 100000 in
theorem i36_40 : INS 36 40 = some (2, 1, 0, 0, .int 1, []) := rfl
set_option maxRecDepth 100000 in
theorem i36_41 : INS 36 41 = some (12, 3, 45, 0, .null, []) := rfl
set_option maxRecDepth 100000 in
theorem i36_44 : INS 36 44 = some (2, 1, 0, 0, .int 0, []) := rfl
set_option maxRecDepth 100000 in
theorem i36_45 : INS 36 45 = some (27, 1, 0, 0, .null, []) := rfl
set_option maxRecDepth 100000 in
theorem i36_46 : INS 36 46 = some (0, 1, 1, 0, .null, []) := rfl
set_option maxRecDepth 100000 in
theorem i36_47 : INS 36 47 = some (0, 1, 0, 2, .null, []) := rfl
set_option maxRecDepth 100000 in
theorem i36_48 : INS 36 48 = some (16, 3, 3, 4, .null, []) := rfl
set_option maxRecDepth 100000 in
theorem i36_51 : INS 36 51 = some (16, 3, 6, 6, .null, []) := rfl
set_option maxRecDepth 100000 in
theorem i36_54 : INS 36 54 = some (10, 3, 77, 1, .null, []) := rfl
set_option maxRecDepth 100000 in
theorem i36_57 : INS 36 57 = some (0, 1, 0, 2, .null, []) := rfl
set_option maxRecDepth 100000 in
theorem i36_58 : INS 36 58 = some (16, 3, 3, 8, .null, []) := rfl
set_option maxRecDepth 100000 in
theorem i36_61 : INS 36 61 = some (2, 1, 0, 0, .int 2, []) := rfl
set_option maxRecDepth 100000 in
theorem i36_62 : INS 36 62 = some (0, 1, 0, 2, .null, []) := rfl
set_option maxRecDepth 100000 in
theorem i36_63 : INS 36 63 = some (16, 3, 3, 4, .null, []) := rfl
set_option maxRecDepth 100000 in
theorem i36_66 : INS 36 66 = some (16, 3, 6, 7, .null, []) := rfl
set_option maxRecDepth 100000 in
theorem i36_69 : INS 36 69 = some (3, 1, 2, 0, .null, []) := rfl
set_option maxRecDepth 100000 in
theorem i36_70 : INS 36 70 = some (10, 3, 77, 3, .null, []) := rfl
set_option maxRecDepth 100000 in
theorem i36_73 : INS 36 73 = some (2, 1, 0, 0, .int 1, []) := rfl
set_option maxRecDepth 100000 in
theorem i36_74 : INS 36 74 = some (12, 3, 78, 0, .null, []) := rfl
set_option maxRecDepth 100000 in
theorem i36_77 : INS 36 77 = some (2, 1, 0, 0, .int 0, []) := rfl
set_option maxRecDepth 100000 in
theorem i36_78 : INS 36 78 = some (27, 1, 0, 0, .null, []) := rfl
set_option maxRecDepth 100000 in
theorem i37_0 : INS 37 0 = some (0, 1, 0, 2, .null, []) := rfl
set_option maxRecDepth 100000 in
theorem i37_1 : INS 37 1 = some (16, 3, 3, 4, .null, []) := rfl
set_option maxRecDepth 100000 in
theorem i37_4 : INS 37 4 = some (11, 3, 20, 0, .null, []) := rfl
set_option maxRecDepth 100000 in
theorem i37_7 : INS 37 7 = some (0, 1, 0, 2, .null, []) := rfl
set_option maxRecDepth 100000 in
theorem i37_8 : INS 37 8 = some (8, 1, 0, 0, .null, []) := rfl
set_option maxRecDepth 100000 in
theorem i37_9 : INS 37 9 = some (16, 3, 3, 9, .null, []) := rfl
set_option maxRecDepth 100000 in
theorem i37_12 : INS 37 12 = some (2, 1, 0, 0, .int 1, []) := rfl
set_option maxRecDepth 100000 in
theorem i37_13 : INS 37 13 = some (3, 1, 1, 0, .null, []) := rfl
set_option maxRecDepth 100000 in
theorem i37_14 : INS 37 14 = some (17, 3, 3, 9, .null, []) := rfl
set_option maxRecDepth 100000 in
theorem i37_17 : INS 37 17 = some (12, 3, 25, 0, .null, []) := rfl
set_option maxRecDepth 100000 in
theorem i37_20 : INS 37 20 = some (0, 1, 0, 2, .null, []) := rfl
set_option maxRecDepth 100000 in
theorem i37_21 : INS 37 21 = some (2, 1, 0, 0, .int 0, []) := rfl
set_option maxRecDepth 100000 in
theorem i37_22 : INS 37 22 = some (17, 3, 3, 5, .null, []) := rfl
set_option maxRecDepth 100000 in
theorem i37_25 : INS 37 25 = some (0, 1, 0, 2, .null, []) := rfl
set_option maxRecDepth 100000 in
theorem i37_26 : INS 37 26 = some (16, 3, 3, 0, .null, []) := rfl
set_option maxRecDepth 100000 in
theorem i37_29 : INS 37 29 = some (2, 1, 0, 0, .int 4, []) := rfl
set_option maxRecDepth 100000 in
theorem i37_30 : INS 37 30 = some (10, 3, 38, 1, .null, []) := rfl
set_option maxRecDepth 100000 in
theorem i37_33 : INS 37 33 = some (0, 1, 0, 2, .null, []) := rfl
set_option maxRecDepth 100000 in
theorem i37_34 : INS 37 34 = some (0, 1, 1, 0, .null, []) := rfl
set_option maxRecDepth 100000 in
theorem i37_35 : INS 37 35 = some (17, 3, 3, 13, .null, []) := rfl
set_option maxRecDepth 100000 in
theorem i37_38 : INS 37 38 = some (0, 1, 0, 2, .null, []) := rfl
set_option maxRecDepth 100000 in
theorem i37_39 : INS 37 39 = some (8, 1, 0, 0, .null, []) := rfl
set_option maxRecDepth 100000 in
theorem i37_40 : INS 37 40 = some (16, 3, 3, 15, .null, []) := rfl
set_option maxRecDepth 100000 in
theorem i37_43 : INS 37 43 = some (2, 1, 0, 0, .int 1, []) := rfl
set_option maxRecDepth 100000 in
theorem i37_44 : INS 37 44 = some (3, 1, 0, 0, .null, []) := rfl
set_option maxRecDepth 100000 in
theorem i37_45 : INS 37 45 = some (17, 3, 3, 15, .null, []) := rfl
set_option maxRecDepth 100000 in
theorem i37_48 : INS 37 48 = some (27, 1, 3, 0, .null, []) := rfl
set_option maxRecDepth 100000 in
theorem i38_0 : INS 38 0 = some (0, 1, 0, 2, .null, []) := rfl
set_option maxRecDepth 100000 in
theorem i38_1 : INS 38 1 = some (16, 3, 3, 4, .null, []) := rfl
set_option maxRecDepth 100000 in
theorem i38_4 : INS 38 4 = some (11, 3, 44, 0, .null, []) := rfl
set_option maxRecDepth 100000 in
theorem i38_7 : INS 38 7 = some (0, 1, 1, 0, .null, []) := rfl
set_option maxRecDepth 100000 in
theorem i38_8 : INS 38 8 = some (0, 1, 0, 2, .null, []) := rfl
set_option maxRecDepth 100000 in
theorem i38_9 : INS 38 9 = some (16, 3, 3, 4, .null, []) := rfl
set_option maxRecDepth 100000 in
theorem i38_12 : INS 38 12 = some (16, 3, 6, 4, .null, []) := rfl
set_option maxRecDepth 100000 in
theorem i38_15 : INS 38 15 = some (10, 3, 31, 1, .null, []) := rfl
set_option maxRecDepth 100000 in
theorem i38_18 : INS 38 18 = some (0, 1, 0, 2, .null, []) := rfl
set_option maxRecDepth 100000 in
theorem i38_19 : INS 38 19 = some (8, 1, 0, 0, .null, []) := rfl
set_option maxRecDepth 100000 in
theorem i38_20 : INS 38 20 = some (16, 3, 3, 7, .null, []) := rfl
set_option maxRecDepth 100000 in
theorem i38_23 : INS 38 23 = some (2, 1, 0, 0, .int 1, []) := rfl
set_option maxRecDepth 100000 in
theorem i38_24 : INS 38 24 = some (3, 1, 0, 0, .null, []) := rfl
set_option maxRecDepth 100000 in
theorem i38_25 : INS 38 25 = some (17, 3, 3, 7, .null, []) := rfl
set_option maxRecDepth 100000 in
theorem i38_28 : INS 38 28 = some (12, 3, 58, 0, .null, []) := rfl
set_option maxRecDepth 100000 in
theorem i38_31 : INS 38 31 = some (0, 1, 0, 2, .null, []) := rfl
set_option maxRecDepth 100000 in
theorem i38_32 : INS 38 32 = some (8, 1, 0, 0, .null, []) := rfl
set_option maxRecDepth 100000 in
theorem i38_33 : INS 38 33 = some (16, 3, 3, 8, .null, []) := rfl
set_option maxRecDepth 100000 in
theorem i38_36 : INS 38 36 = some (2, 1, 0, 0, .int 1, []) := rfl
set_option maxRecDepth 100000 in
theorem i38_37 : INS 38 37 = some (3, 1, 0, 0, .null, []) := rfl
set_option maxRecDepth 100000 in
theorem i38_38 : INS 38 38 = some (17, 3, 3, 8, .null, []) := rfl
set_option maxRecDepth 100000 in
theorem i38_41 : INS 38 41 = some (12, 3, 58, 0, .null, []) := rfl
set_option maxRecDepth 100000 in
theorem i38_44 : INS 38 44 = some (0, 1, 0, 2, .null, []) := rfl
set_option maxRecDepth 100000 in
theorem i38_45 : INS 38 45 = some (16, 3, 3, 0, .null, []) := rfl
set_option maxRecDepth 100000 in
theorem i38_48 : INS 38 48 = some (2, 2, 0, 0, .int 7, []) := rfl
set_option maxRecDepth 100000 in
theorem i38_50 : INS 38 50 = some (10, 3, 58, 0, .null, []) := rfl
set_option maxRecDepth 100000 in
theorem i38_53 : INS 38 53 = some (0, 1, 0, 2, .null, []) := rfl
set_option maxRecDepth 100000 in
theorem i38_54 : INS 38 54 = some (0, 1, 1, 0, .null, []) := rfl
set_option maxRecDepth 100000 in
theorem i38_55 : INS 38 55 = some (17, 3, 3, 5, .null, []) := rfl
set_option maxRecDepth 100000 in
theorem i38_58 : INS 38 58 = some (0, 1, 0, 2, .null, []) := rfl
set_option maxRecDepth 100000 in
theorem i38_59 : INS 38 59 = some (0, 1, 2, 0, .null, []) := rfl
set_option maxRecDepth 100000 in
theorem i38_60 : INS 38 60 = some (17, 3, 3, 12, .null, []) := rfl
set_option maxRecDepth 100000 in
theorem i38_63 : INS 38 63 = some (0, 1, 0, 2, .null, []) := rfl
set_option maxRecDepth 100000 in
theorem i38_64 : INS 38 64 = some (8, 1, 0, 0, .null, []) := rfl
set_option maxRecDepth 100000 in
theorem i38_65 : INS 38 65 = some (16, 3, 3, 14, .null, []) := rfl
set_option maxRecDepth 100000 in
theorem i38_68 : INS 38 68 = some (2, 1, 0, 0, .int 1, []) := rfl
set_option maxRecDepth 100000 in
theorem i38_69 : INS 38 69 = some (3, 1, 0, 0, .null, []) := rfl
set_option maxRecDepth 100000 in
theorem i38_70 : INS 38 70 = some (17, 3, 3, 14, .null, []) := rfl
set_option maxRecDepth 100000 in
theorem i38_73 : INS 38 73 = some (27, 1, 3, 0, .null, []) := rfl
set_option maxRecDepth 100000 in
theorem i39_0 : INS 39 0 = some (0, 1, 0, 2, .null, []) := rfl
set_option maxRecDepth 100000 in
theorem i39_1 : INS 39 1 = some (16, 3, 3, 5, .null, []) := rfl
set_option maxRecDepth 100000 in
theorem i39_4 : INS 39 4 = some (9, 3, 11, 0, .null, []) := rfl
set_option maxRecDepth 100000 in
theorem i39_7 : INS 39 7 = some (2, 1, 0, 0, .int 1, []) := rfl
set_option maxRecDepth 100000 in
theorem i39_8 : INS 39 8 = some (12, 3, 12, 0, .null, []) := rfl
set_option maxRecDepth 100000 in
theorem i39_11 : INS 39 11 = some (2, 1, 0, 0, .int 0, []) := rfl
set_option maxRecDepth 100000 in
theorem i39_12 : INS 39 12 = some (0, 1, 0, 2, .null, []) := rfl
set_option maxRecDepth 100000 in
theorem i39_13 : INS 39 13 = some (16, 3, 3, 7, .null, []) := rfl
set_option maxRecDepth 100000 in
theorem i39_16 : INS 39 16 = some (3, 1, 0, 0, .null, []) := rfl
set_option maxRecDepth 100000 in
theorem i39_17 : INS 39 17 = some (0, 1, 0, 2, .null, []) := rfl
set_option maxRecDepth 100000 in
theorem i39_18 : INS 39 18 = some (16, 3, 3, 8, .null, []) := rfl
set_option maxRecDepth 100000 in
theorem i39_21 : INS 39 21 = some (3, 1, 0, 0, .null, []) := rfl
set_option maxRecDepth 100000 in
theorem i39_22 : INS 39 22 = some (0, 1, 0, 2, .null, []) := rfl
set_option maxRecDepth 100000 in
theorem i39_23 : INS 39 23 = some (16, 3, 3, 9, .null, []) := rfl
set_option maxRecDepth 100000 in
theorem i39_26 : INS 39 26 = some (3, 1, 0, 0, .null, []) := rfl
set_option maxRecDepth 100000 in
theorem i39_27 : INS 39 27 = some (27, 1, 0, 0, .null, []) := rfl
set_option maxRecDepth 100000 in
theorem i40_0 : INS 40 0 = some (0, 1, 0, 2, .null, []) := rfl
set_option maxRecDepth 100000 in
theorem i40_1 : INS 40 1 = some (16, 3, 3, 5, .null, []) := rfl
set_option maxRecDepth 100000 in
theorem i40_4 : INS 40 4 = some (6, 1, 1, 0, .null, []) := rfl
set_option maxRecDepth 100000 in
theorem i40_5 : INS 40 5 = some (1, 1, 1, 1, .null, []) := rfl
set_option maxRecDepth 100000 in
theorem i40_6 : INS 40 6 = some (0, 1, 1, 1, .null, []) := rfl
set_option maxRecDepth 100000 in
theorem i40_7 : INS 40 7 = some (2, 2, 0, 0, .int 6, []) := rfl
set_option maxRecDepth 100000 in
theorem i40_9 : INS 40 9 = some (5, 1, 0, 0, .null, []) := rfl
set_option maxRecDepth 100000 in
theorem i40_10 : INS 40 10 = some (0, 1, 0, 2, .null, []) := rfl
set_option maxRecDepth 100000 in
theorem i40_11 : INS 40 11 = some (16, 3, 3, 6, .null, []) := rfl
set_option maxRecDepth 100000 in
theorem i40_14 : INS 40 14 = some (6, 1, 1, 0, .null, []) := rfl
set_option maxRecDepth 100000 in
theorem i40_15 : INS 40 15 = some (4, 1, 6, 0, .null, []) := rfl
set_option maxRecDepth 100000 in
theorem i40_16 : INS 40 16 = some (1, 1, 1, 1, .null, []) := rfl
set_option maxRecDepth 100000 in
theorem i40_17 : INS 40 17 = some (0, 1, 1, 1, .null, []) := rfl
set_option maxRecDepth 100000 in
theorem i40_18 : INS 40 18 = some (2, 1, 0, 0, .int 4, []) := rfl
set_option maxRecDepth 100000 in
theorem i40_19 : INS 40 19 = some (5, 1, 0, 0, .null, []) := rfl
set_option maxRecDepth 100000 in
theorem i40_20 : INS 40 20 = some (0, 1, 0, 2, .null, []) := rfl
set_option maxRecDepth 100000 in
theorem i40_21 : INS 40 21 = some (16, 3, 3, 7, .null, []) := rfl
set_option maxRecDepth 100000 in
theorem i40_24 : INS 40 24 = some (6, 1, 1, 0, .null, []) := rfl
set_option maxRecDepth 100000 in
theorem i40_25 : INS 40 25 = some (4, 1, 6, 0, .null, []) := rfl
set_option maxRecDepth 100000 in
theorem i40_26 : INS 40 26 = some (1, 1, 1, 1, .null, []) := rfl
set_option maxRecDepth 100000 in
theorem i40_27 : INS 40 27 = some (0, 1, 1, 1, .null, []) := rfl
set_option maxRecDepth 100000 in
theorem i40_28 : INS 40 28 = some (2, 1, 0, 0, .int 4, []) := rfl
set_option maxRecDepth 100000 in
theorem i40_29 : INS 40 29 = some (5, 1, 0, 0, .null, []) := rfl
set_option maxRecDepth 100000 in
theorem i40_30 : INS 40 30 = some (0, 1, 0, 2, .null, []) := rfl
set_option maxRecDepth 100000 in
theorem i40_31 : INS 40 31 = some (16, 3, 3, 8, .null, []) := rfl
set_option maxRecDepth 100000 in
theorem i40_34 : INS 40 34 = some (6, 1, 1, 0, .null, []) := rfl
set_option maxRecDepth 100000 in
theorem i40_35 : INS 40 35 = some (4, 1, 6, 0, .null, []) := rfl
set_option maxRecDepth 100000 in
theorem i40_36 : INS 40 36 = some (1, 1, 1, 1, .null, []) := rfl
set_option maxRecDepth 100000 in
theorem i40_37 : INS 40 37 = some (0, 1, 1, 1, .null, []) := rfl
set_option maxRecDepth 100000 in
theorem i40_38 : INS 40 38 = some (2, 1, 0, 0, .int 4, []) := rfl
set_option maxRecDepth 100000 in
theorem i40_39 : INS 40 39 = some (5, 1, 0, 0, .null, []) := rfl
set_option maxRecDepth 100000 in
theorem i40_40 : INS 40 40 = some (0, 1, 0, 2, .null, []) := rfl
set_option maxRecDepth 100000 in
theorem i40_41 : INS 40 41 = some (16, 3, 3, 9, .null, []) := rfl
set_option maxRecDepth 100000 in
theorem i40_44 : INS 40 44 = some (6, 1, 1, 0, .null, []) := rfl
set_option maxRecDepth 100000 in
theorem i40_45 : INS 40 45 = some (4, 1, 6, 0, .null, []) := rfl
set_option maxRecDepth 100000 in
theorem i40_46 : INS 40 46 = some (1, 1, 1, 1, .null, []) := rfl
set_option maxRecDepth 100000 in
theorem i40_47 : INS 40 47 = some (0, 1, 1, 1, .null, []) := rfl
set_option maxRecDepth 100000 in
theorem i40_48 : INS 40 48 = some (2, 2, 0, 0, .int 6, []) := rfl
set_option maxRecDepth 100000 in
theorem i40_50 : INS 40 50 = some (5, 1, 0, 0, .null, []) := rfl
set_option maxRecDepth 100000 in
theorem i40_51 : INS 40 51 = some (0, 1, 0, 2, .null, []) := rfl
set_option maxRecDepth 100000 in
theorem i40_52 : INS 40 52 = some (16, 3, 3, 10, .null, []) := rfl
set_option maxRecDepth 100000 in
theorem i40_55 : INS 40 55 = some (6, 1, 1, 0, .null, []) := rfl
set_option maxRecDepth 100000 in
theorem i40_56 : INS 40 56 = some (4, 1, 6, 0, .null, []) := rfl
set_option maxRecDepth 100000 in
theorem i40_57 : INS 40 57 = some (1, 1, 1, 1, .null, []) := rfl
set_option maxRecDepth 100000 in
theorem i40_58 : INS 40 58 = some (0, 1, 1, 1, .null, []) := rfl
set_option maxRecDepth 100000 in
theorem i40_59 : INS 40 59 = some (2, 1, 0, 0, .int 1, []) := rfl
set_option maxRecDepth 100000 in
theorem i40_60 : INS 40 60 = some (5, 1, 0, 0, .null, []) := rfl
set_option maxRecDepth 100000 in
theorem i40_61 : INS 40 61 = some (0, 1, 0, 2, .null, []) := rfl
set_option maxRecDepth 100000 in
theorem i40_62 : INS 40 62 = some (16, 3, 3, 11, .null, []) := rfl
set_option maxRecDepth 100000 in
theorem i40_65 : INS 40 65 = some (9, 3, 72, 0, .null, []) := rfl
set_option maxRecDepth 100000 in
theorem i40_68 : INS 40 68 = some (2, 1, 0, 0, .int 1, []) := rfl
set_option maxRecDepth 100000 in
theorem i40_69 : INS 40 69 = some (12, 3, 73, 0, .null, []) := rfl
set_option maxRecDepth 100000 in
theorem i40_72 : INS 40 72 = some (2, 1, 0, 0, .int 0, []) := rfl
set_option maxRecDepth 100000 in
theorem i40_73 : INS 40 73 = some (6, 1, 1, 0, .null, []) := rfl
set_option maxRecDepth 100000 in
theorem i40_74 : INS 40 74 = some (4, 1, 6, 0, .null, []) := rfl
set_option maxRecDepth 100000 in
theorem i40_75 : INS 40 75 = some (1, 1, 1, 1, .null, []) := rfl
set_option maxRecDepth 100000 in
theorem i40_76 : INS 40 76 = some (0, 1, 1, 1, .null, []) := rfl
set_option maxRecDepth 100000 in
theorem i40_77 : INS 40 77 = some (2, 1, 0, 0, .int 2, []) := rfl
set_option maxRecDepth 100000 in
theorem i40_78 : INS 40 78 = some (5, 1, 0, 0, .null, []) := rfl
set_option maxRecDepth 100000 in
theorem i40_79 : INS 40 79 = some (0, 1, 0, 2, .null, []) := rfl
set_option maxRecDepth 100000 in
theorem i40_80 : INS 40 80 = some (16, 3, 3, 12, .null, []) := rfl
set_option maxRecDepth 100000 in
theorem i40_83 : INS 40 83 = some (6, 1, 1, 0, .null, []) := rfl
set_option maxRecDepth 100000 in
theorem i40_84 : INS 40 84 = some (4, 1, 6, 0, .null, []) := rfl
set_option maxRecDepth 100000 in
theorem i40_85 : INS 40 85 = some (1, 1, 1, 1, .null, []) := rfl
set_option maxRecDepth 100000 in
theorem i40_86 : INS 40 86 = some (0, 1, 1, 1, .null, []) := rfl
set_option maxRecDepth 100000 in
theorem i40_87 : INS 40 87 = some (2, 1, 0, 0, .int 2, []) := rfl
set_option maxRecDepth 100000 in
theorem i40_88 : INS 40 88 = some (5, 1, 0, 0, .null, []) := rfl
set_option maxRecDepth 100000 in
theorem i40_89 : INS 40 89 = some (0, 1, 0, 2, .null, []) := rfl
set_option maxRecDepth 100000 in
theorem i40_90 : INS 40 90 = some (16, 3, 3, 13, .null, []) := rfl
set_option maxRecDepth 100000 in
theorem i40_93 : INS 40 93 = some (6, 1, 1, 0, .null, []) := rfl
set_option maxRecDepth 100000 in
theorem i40_94 : INS 40 94 = some (4, 1, 6, 0, .null, []) := rfl
set_option maxRecDepth 100000 in
theorem i40_95 : INS 40 95 = some (27, 1, 1, 0, .null, []) := rfl
set_option maxRecDepth 100000 in
theorem i41_0 : INS 41 0 = some (0, 1, 1, 0, .null, []) := rfl
set_option maxRecDepth 100000 in
theorem i41_1 : INS 41 1 = some (13, 75, 159, 0, .null, [76, 81, 86, 91, 96, 101, 106, 119, 124, 129, 134, 139, 144, 149, 154]) := rfl
set_option maxRecDepth 100000 in
theorem i41_76 : INS 41 76 = some (0, 1, 0, 2, .null, []) := rfl
set_option maxRecDepth 100000 in
theorem i41_77 : INS 41 77 = some (16, 3, 3, 0, .null, []) := rfl
set_option maxRecDepth 100000 in
theorem i41_80 : INS 41 80 = some (27, 1, 0, 0, .null, []) := rfl
set_option maxRecDepth 100000 in
theorem i41_81 : INS 41 81 = some (0, 1, 0, 2, .null, []) := rfl
set_option maxRecDepth 100000 in
theorem i41_82 : INS 41 82 = some (16, 3, 3, 1, .null, []) := rfl
set_option maxRecDepth 100000 in
theorem i41_85 : INS 41 85 = some (27, 1, 0, 0, .null, []) := rfl
set_option maxRecDepth 100000 in
theorem i41_86 : INS 41 86 = some (0, 1, 0, 2, .null, []) := rfl
set_option maxRecDepth 100000 in
theorem i41_87 : INS 41 87 = some (24, 3, 34, 0, .null, []) := rfl
set_option maxRecDepth 100000 in
theorem i41_90 : INS 41 90 = some (27, 1, 0, 0, .null, []) := rfl
set_option maxRecDepth 100000 in
theorem i41_91 : INS 41 91 = some (0, 1, 0, 2, .null, []) := rfl
set_option maxRecDepth 100000 in
theorem i41_92 : INS 41 92 = some (16, 3, 3, 6, .null, []) := rfl
set_option maxRecDepth 100000 in
theorem i41_95 : INS 41 95 = some (27, 1, 0, 0, .null, []) := rfl
set_option maxRecDepth 100000 in
theorem i41_96 : INS 41 96 = some (0, 1, 0, 2, .null, []) := rfl
set_option maxRecDepth 100000 in
theorem i41_97 : INS 41 97 = some (16, 3, 3, 9, .null, []) := rfl
set_option maxRecDepth 100000 in
theorem i41_100 : INS 41 100 = some (27, 1, 0, 0, .null, []) := rfl
set_option maxRecDepth 100000 in
theorem i41_101 : INS 41 101 = some (0, 1, 0, 2, .null, []) := rfl
set_option maxRecDepth 100000 in
theorem i41_102 : INS 41 102 = some (16, 3, 3, 10, .null, []) := rfl
set_option maxRecDepth 100000 in
theorem i41_105 : INS 41 105 = some (27, 1, 0, 0, .null, []) := rfl
set_option maxRecDepth 100000 in
theorem i41_106 : INS 41 106 = some (0, 1, 0, 2, .null, []) := rfl
set_option maxRecDepth 100000 in
theorem i41_107 : INS 41 107 = some (16, 3, 3, 11, .null, []) := rfl
set_option maxRecDepth 100000 in
theorem i41_110 : INS 41 110 = some (9, 3, 117, 0, .null, []) := rfl
set_option maxRecDepth 100000 in
theorem i41_113 : INS 41 113 = some (2, 1, 0, 0, .int 1, []) := rfl
set_option maxRecDepth 100000 in
theorem i41_114 : INS 41 114 = some (12, 3, 118, 0, .null, []) := rfl
set_option maxRecDepth 100000 in
theorem i41_117 : INS 41 117 = some (2, 1, 0, 0, .int 0, []) := rfl
set_option maxRecDepth 100000 in
theorem i41_118 : INS 41 118 = some (27, 1, 0, 0, .null, []) := rfl
set_option maxRecDepth 100000 in
theorem i41_119 : INS 41 119 = some (0, 1, 0, 2, .null, []) := rfl
set_option maxRecDepth 100000 in
theorem i41_120 : INS 41 120 = some (16, 3, 3, 7, .null, []) := rfl
set_option maxRecDepth 100000 in
theorem i41_123 : INS 41 123 = some (27, 1, 0, 0, .null, []) := rfl
set_option maxRecDepth 100000 in
theorem i41_124 : INS 41 124 = some (0, 1, 0, 2, .null, []) := rfl
set_option maxRecDepth 100000 in
theorem i41_125 : INS 41 125 = some (16, 3, 3, 8, .null, []) := rfl
set_option maxRecDepth 100000 in
theorem i41_128 : INS 41 128 = some (27, 1, 0, 0, .null, []) := rfl
set_option maxRecDepth 100000 in
theorem i41_129 : INS 41 129 = some (0, 1, 0, 2, .null, []) := rfl
set_option maxRecDepth 100000 in
theorem i41_130 : INS 41 130 = some (16, 3, 3, 12, .null, []) := rfl
set_option maxRecDepth 100000 in
theorem i41_133 : INS 41 133 = some (27, 1, 0, 0, .null, []) := rfl
set_option maxRecDepth 100000 in
theorem i41_134 : INS 41 134 = some (0, 1, 0, 2, .null, []) := rfl
set_option maxRecDepth 100000 in
theorem i41_135 : INS 41 135 = some (16, 3, 3, 13, .null, []) := rfl
set_option maxRecDepth 100000 in
theorem i41_138 : INS 41 138 = some (27, 1, 0, 0, .null, []) := rfl
set_option maxRecDepth 100000 in
theorem i41_139 : INS 41 139 = some (0, 1, 0, 2, .null, []) := rfl
set_option maxRecDepth 100000 in
theorem i41_140 : INS 41 140 = some (16, 3, 3, 2, .null, []) := rfl
set_option maxRecDepth 100000 in
theorem i41_143 : INS 41 143 = some (27, 1, 0, 0, .null, []) := rfl
set_option maxRecDepth 100000 in
theorem i41_144 : INS 41 144 = some (0, 1, 0, 2, .null, []) := rfl
set_option maxRecDepth 100000 in
theorem i41_145 : INS 41 145 = some (16, 3, 3, 3, .null, []) := rfl
set_option maxRecDepth 100000 in
theorem i41_148 : INS 41 148 = some (27, 1, 0, 0, .null, []) := rfl
set_option maxRecDepth 100000 in
theorem i41_149 : INS 41 149 = some (0, 1, 0, 2, .null, []) := rfl
set_option maxRecDepth 100000 in
theorem i41_150 : INS 41 150 = some (16, 3, 3, 14, .null, []) := rfl
set_option maxRecDepth 100000 in
theorem i41_153 : INS 41 153 = some (27, 1, 0, 0, .null, []) := rfl
set_option maxRecDepth 100000 in
theorem i41_154 : INS 41 154 = some (0, 1, 0, 2, .null, []) := rfl
set_option maxRecDepth 100000 in
theorem i41_155 : INS 41 155 = some (16, 3, 3, 15, .null, []) := rfl
set_option maxRecDepth 100000 in
theorem i41_158 : INS 41 158 = some (27, 1, 0, 0, .null, []) := rfl
set_option maxRecDepth 100000 in
theorem i41_159 : INS 41 159 = some (2, 1, 0, 0, .int (-1), []) := rfl
set_option maxRecDepth 100000 in
theorem i41_160 : INS 41 160 = some (27, 1, 0, 0, .null, []) := rfl
set_option maxRecDepth 100000 in
theorem i43_0 : INS 43 0 = some (0, 1, 0, 2, .null, []) := rfl
set_option maxRecDepth 100000 in
theorem i43_1 : INS 43 1 = some (0, 1, 3, 0, .null, []) := rfl
set_option maxRecDepth 100000 in
theorem i43_2 : INS 43 2 = some (17, 3, 4, 6, .null, []) := rfl
set_option maxRecDepth 100000 in
theorem i43_5 : INS 43 5 = some (0, 1, 0, 2, .null, []) := rfl
set_option maxRecDepth 100000 in
theorem i43_6 : INS 43 6 = some (0, 2, 4, 0, .null, []) := rfl
set_option maxRecDepth 100000 in
theorem i43_8 : INS 43 8 = some (17, 3, 4, 7, .null, []) := rfl
set_option maxRecDepth 100000 in
theorem i43_11 : INS 43 11 = some (0, 1, 0, 2, .null, []) := rfl
set_option maxRecDepth 100000 in
theorem i43_12 : INS 43 12 = some (2, 1, 0, 0, .int 0, []) := rfl
set_option maxRecDepth 100000 in
theorem i43_13 : INS 43 13 = some (17, 3, 4, 8, .null, []) := rfl
set_option maxRecDepth 100000 in
theorem i43_16 : INS 43 16 = some (2, 1, 0, 0, .int 0, []) := rfl
set_option maxRecDepth 100000 in
theorem i43_17 : INS 43 17 = some (1, 2, 5, 0, .null, []) := rfl
set_option maxRecDepth 100000 in
theorem i43_19 : INS 43 19 = some (0, 2, 5, 0, .null, []) := rfl
set_option maxRecDepth 100000 in
theorem i43_21 : INS 43 21 = some (0, 2, 4, 0, .null, []) := rfl
set_option maxRecDepth 100000 in
theorem i43_23 : INS 43 23 = some (10, 3, 82, 3, .null, []) := rfl
set_option maxRecDepth 100000 in
theorem i43_26 : INS 43 26 = some (2, 1, 0, 0, .int 0, []) := rfl
set_option maxRecDepth 100000 in
theorem i43_27 : INS 43 27 = some (1, 2, 6, 0, .null, []) := rfl
set_option maxRecDepth 100000 in
theorem i43_29 : INS 43 29 = some (0, 2, 6, 0, .null, []) := rfl
set_option maxRecDepth 100000 in
theorem i43_31 : INS 43 31 = some (0, 1, 3, 0, .null, []) := rfl
set_option maxRecDepth 100000 in
theorem i43_32 : INS 43 32 = some (10, 3, 76, 3, .null, []) := rfl
set_option maxRecDepth 100000 in
theorem i43_35 : INS 43 35 = some (0, 1, 1, 2, .null, []) := rfl
set_option maxRecDepth 100000 in
theorem i43_36 : INS 43 36 = some (16, 3, 2, 1, .null, []) := rfl
set_option maxRecDepth 100000 in
theorem i43_39 : INS 43 39 = some (0, 1, 2, 0, .null, []) := rfl
set_option maxRecDepth 100000 in
theorem i43_40 : INS 43 40 = some (2, 2, 0, 0, .int 12, []) := rfl
set_option maxRecDepth 100000 in
theorem i43_42 : INS 43 42 = some (0, 2, 5, 0, .null, []) := rfl
set_option maxRecDepth 100000 in
theorem i43_44 : INS 43 44 = some (3, 1, 2, 0, .null, []) := rfl
set_option maxRecDepth 100000 in
theorem i43_45 : INS 43 45 = some (3, 1, 0, 0, .null, []) := rfl
set_option maxRecDepth 100000 in
theorem i43_46 : INS 43 46 = some (0, 2, 6, 0, .null, []) := rfl
set_option maxRecDepth 100000 in
theorem i43_48 : INS 43 48 = some (3, 1, 0, 0, .null, []) := rfl
set_option maxRecDepth 100000 in
theorem i43_49 : INS 43 49 = some (18, 1, 23, 0, .null, []) := rfl
set_option maxRecDepth 100000 in
theorem i43_50 : INS 43 50 = some (1, 2, 7, 2, .null, []) := rfl
set_option maxRecDepth 100000 in
theorem i43_52 : INS 43 52 = some (0, 2, 7, 2, .null, []) := rfl
set_option maxRecDepth 100000 in
theorem i43_54 : INS 43 54 = some (16, 3, 3, 0, .null, []) := rfl
set_option maxRecDepth 100000 in
theorem i43_57 : INS 43 57 = some (9, 3, 70, 0, .null, []) := rfl
set_option maxRecDepth 100000 in
theorem i43_60 : INS 43 60 = some (0, 1, 0, 2, .null, []) := rfl
set_option maxRecDepth 100000 in
theorem i43_61 : INS 43 61 = some (0, 2, 7, 2, .null, []) := rfl
set_option maxRecDepth 100000 in
theorem i43_63 : INS 43 63 = some (0, 2, 6, 0, .null, []) := rfl
set_option maxRecDepth 100000 in
theorem i43_65 : INS 43 65 = some (0, 2, 5, 0, .null, []) := rfl
set_option maxRecDepth 100000 in
theorem i43_67 : INS 43 67 = some (24, 3, 44, 0, .null, []) := rfl
set_option maxRecDepth 100000 in
theorem i43_70 : INS 43 70 = some (15, 3, 6, 0, .int 1, []) := rfl
set_option maxRecDepth 100000 in
theorem i43_73 : INS 43 73 = some (12, 3, 29, 0, .null, []) := rfl
set_option maxRecDepth 100000 in
theorem i43_76 : INS 43 76 = some (15, 3, 5, 0, .int 1, []) := rfl
set_option maxRecDepth 100000 in
theorem i43_79 : INS 43 79 = some (12, 3, 19, 0, .null, []) := rfl
set_option maxRecDepth 100000 in
theorem i43_82 : INS 43 82 = some (27, 1, 3, 0, .null, []) := rfl
set_option maxRecDepth 100000 in
theorem i44_0 : INS 44 0 = some (0, 1, 0, 2, .null, []) := rfl
set_option maxRecDepth 100000 in
theorem i44_1 : INS 44 1 = some (16, 3, 4, 0, .null, []) := rfl
set_option maxRecDepth 100000 in
theorem i44_4 : INS 44 4 = some (0, 1, 0, 2, .null, []) := rfl
set_option maxRecDepth 100000 in
theorem i44_5 : INS 44 5 = some (16, 3, 4, 8, .null, []) := rfl
set_option maxRecDepth 100000 in
theorem i44_8 : INS 44 8 = some (0, 1, 2, 0, .null, []) := rfl
set_option maxRecDepth 100000 in
theorem i44_9 : INS 44 9 = some (19, 1, 20, 0, .null, []) := rfl
set_option maxRecDepth 100000 in
theorem i44_10 : INS 44 10 = some (0, 1, 0, 2, .null, []) := rfl
set_option maxRecDepth 100000 in
theorem i44_11 : INS 44 11 = some (16, 3, 4, 1, .null, []) := rfl
set_option maxRecDepth 100000 in
theorem i44_14 : INS 44 14 = some (0, 1, 0, 2, .null, []) := rfl
set_option maxRecDepth 100000 in
theorem i44_15 : INS 44 15 = some (16, 3, 4, 8, .null, []) := rfl
set_option maxRecDepth 100000 in
theorem i44_18 : INS 44 18 = some (0, 1, 3, 0, .null, []) := rfl
set_option maxRecDepth 100000 in
theorem i44_19 : INS 44 19 = some (19, 1, 20, 0, .null, []) := rfl
set_option maxRecDepth 100000 in
theorem i44_20 : INS 44 20 = some (0, 1, 0, 2, .null, []) := rfl
set_option maxRecDepth 100000 in
theorem i44_21 : INS 44 21 = some (16, 3, 4, 2, .null, []) := rfl
set_option maxRecDepth 100000 in
theorem i44_24 : INS 44 24 = some (0, 1, 0, 2, .null, []) := rfl
set_option maxRecDepth 100000 in
theorem i44_25 : INS 44 25 = some (16, 3, 4, 8, .null, []) := rfl
set_option maxRecDepth 100000 in
theorem i44_28 : INS 44 28 = some (0, 1, 1, 2, .null, []) := rfl
set_option maxRecDepth 100000 in
theorem i44_29 : INS 44 29 = some (16, 3, 3, 0, .null, []) := rfl
set_option maxRecDepth 100000 in
theorem i44_32 : INS 44 32 = some (19, 1, 20, 0, .null, []) := rfl
set_option maxRecDepth 100000 in
theorem i44_33 : INS 44 33 = some (0, 1, 0, 2, .null, []) := rfl
set_option maxRecDepth 100000 in
theorem i44_34 : INS 44 34 = some (16, 3, 4, 3, .null, []) := rfl
set_option maxRecDepth 100000 in
theorem i44_37 : INS 44 37 = some (0, 1, 0, 2, .null, []) := rfl
set_option maxRecDepth 100000 in
theorem i44_38 : INS 44 38 = some (16, 3, 4, 8, .null, []) := rfl
set_option maxRecDepth 100000 in
theorem i44_41 : INS 44 41 = some (0, 1, 1, 2, .null, []) := rfl
set_option maxRecDepth 100000 in
theorem i44_42 : INS 44 42 = some (16, 3, 3, 1, .null, []) := rfl
set_option maxRecDepth 100000 in
theorem i44_45 : INS 44 45 = some (19, 1, 20, 0, .null, []) := rfl
set_option maxRecDepth 100000 in
theorem i44_46 : INS 44 46 = some (0, 1, 0, 2, .null, []) := rfl
set_option maxRecDepth 100000 in
theorem i44_47 : INS 44 47 = some (16, 3, 4, 4, .null, []) := rfl
set_option maxRecDepth 100000 in
theorem i44_50 : INS 44 50 = some (0, 1, 0, 2, .null, []) := rfl
set_option maxRecDepth 100000 in
theorem i44_51 : INS 44 51 = some (16, 3, 4, 8, .null, []) := rfl
set_option maxRecDepth 100000 in
theorem i44_54 : INS 44 54 = some (0, 1, 1, 2, .null, []) := rfl
set_option maxRecDepth 100000 in
theorem i44_55 : INS 44 55 = some (16, 3, 3, 2, .null, []) := rfl
set_option maxRecDepth 100000 in
theorem i44_58 : INS 44 58 = some (19, 1, 20, 0, .null, []) := rfl
set_option maxRecDepth 100000 in
theorem i44_59 : INS 44 59 = some (0, 1, 0, 2, .null, []) := rfl
set_option maxRecDepth 100000 in
theorem i44_60 : INS 44 60 = some (16, 3, 4, 5, .null, []) := rfl
set_option maxRecDepth 100000 in
theorem i44_63 : INS 44 63 = some (0, 1, 0, 2, .null, []) := rfl
set_option maxRecDepth 100000 in
theorem i44_64 : INS 44 64 = some (16, 3, 4, 8, .null, []) := rfl
set_option maxRecDepth 100000 in
theorem i44_67 : INS 44 67 = some (0, 1, 1, 2, .null, []) := rfl
set_option maxRecDepth 100000 in
theorem i44_68 : INS 44 68 = some (16, 3, 3, 3, .null, []) := rfl
set_option maxRecDepth 100000 in
theorem i44_71 : INS 44 71 = some (19, 1, 20, 0, .null, []) := rfl
set_option maxRecDepth 100000 in
theorem i44_72 : INS 44 72 = some (0, 1, 0, 2, .null, []) := rfl
set_option maxRecDepth 100000 in
theorem i44_73 : INS 44 73 = some (8, 1, 0, 0, .null, []) := rfl
set_option maxRecDepth 100000 in
theorem i44_74 : INS 44 74 = some (16, 3, 4, 8, .null, []) := rfl
set_option maxRecDepth 100000 in
theorem i44_77 : INS 44 77 = some (2, 1, 0, 0, .int 1, []) := rfl
set_option maxRecDepth 100000 in
theorem i44_78 : INS 44 78 = some (3, 1, 0, 0, .null, []) := rfl
set_option maxRecDepth 100000 in
theorem i44_79 : INS 44 79 = some (17, 3, 4, 8, .null, []) := rfl
set_option maxRecDepth 100000 in
theorem i44_82 : INS 44 82 = some (27, 1, 3, 0, .null, []) := rfl
set_option maxRecDepth 100000 in
theorem i45_0 : INS 45 0 = some (0, 1, 1, 0, .null, []) := rfl
set_option maxRecDepth 100000 in
theorem i45_1 : INS 45 1 = some (2, 1, 0, 0, .int 1, []) := rfl
set_option maxRecDepth 100000 in
theorem i45_2 : INS 45 2 = some (3, 1, 5, 0, .null, []) := rfl
set_option maxRecDepth 100000 in
theorem i45_3 : INS 45 3 = some (9, 3, 13, 1, .null, []) := rfl
set_option maxRecDepth 100000 in
theorem i45_6 : INS 45 6 = some (0, 1, 0, 2, .null, []) := rfl
set_option maxRecDepth 100000 in
theorem i45_7 : INS 45 7 = some (16, 3, 4, 6, .null, []) := rfl
set_option maxRecDepth 100000 in
theorem i45_10 : INS 45 10 = some (12, 3, 17, 0, .null, []) := rfl
set_option maxRecDepth 100000 in
theorem i45_13 : INS 45 13 = some (0, 1, 0, 2, .null, []) := rfl
set_option maxRecDepth 100000 in
theorem i45_14 : INS 45 14 = some (16, 3, 4, 7, .null, []) := rfl
set_option maxRecDepth 100000 in
theorem i45_17 : INS 45 17 = some (27, 1, 0, 0, .null, []) := rfl
set_option maxRecDepth 100000 in
theorem i46_0 : INS 46 0 = some (0, 1, 1, 0, .null, []) := rfl
set_option maxRecDepth 100000 in
theorem i46_1 : INS 46 1 = some (2, 1, 0, 0, .int 1, []) := rfl
set_option maxRecDepth 100000 in
theorem i46_2 : INS 46 2 = some (3, 1, 5, 0, .null, []) := rfl
set_option maxRecDepth 100000 in
theorem i46_3 : INS 46 3 = some (9, 3, 13, 1, .null, []) := rfl
set_option maxRecDepth 100000 in
theorem i46_6 : INS 46 6 = some (0, 1, 0, 2, .null, []) := rfl
set_option maxRecDepth 100000 in
theorem i46_7 : INS 46 7 = some (16, 3, 4, 7, .null, []) := rfl
set_option maxRecDepth 100000 in
theorem i46_10 : INS 46 10 = some (12, 3, 17, 0, .null, []) := rfl
set_option maxRecDepth 100000 in
theorem i46_13 : INS 46 13 = some (0, 1, 0, 2, .null, []) := rfl
set_option maxRecDepth 100000 in
theorem i46_14 : INS 46 14 = some (16, 3, 4, 6, .null, []) := rfl
set_option maxRecDepth 100000 in
theorem i46_17 : INS 46 17 = some (27, 1, 0, 0, .null, []) := rfl
set_option maxRecDepth 100000 in
theorem i47_0 : INS 47 0 = some (2, 1, 0, 0, .int 0, []) := rfl
set_option maxRecDepth 100000 in
theorem i47_1 : INS 47 1 = some (1, 2, 4, 0, .null, []) := rfl
set_option maxRecDepth 100000 in
theorem i47_3 : INS 47 3 = some (0, 2, 4, 0, .null, []) := rfl
set_option maxRecDepth 100000 in
theorem i47_5 : INS 47 5 = some (0, 1, 0, 2, .null, []) := rfl
set_option maxRecDepth 100000 in
theorem i47_6 : INS 47 6 = some (16, 3, 4, 8, .null, []) := rfl
set_option maxRecDepth 100000 in
theorem i47_9 : INS 47 9 = some (10, 3, 39, 3, .null, []) := rfl
set_option maxRecDepth 100000 in
theorem i47_12 : INS 47 12 = some (0, 1, 1, 2, .null, []) := rfl
set_option maxRecDepth 100000 in
theorem i47_13 : INS 47 13 = some (16, 3, 2, 1, .null, []) := rfl
set_option maxRecDepth 100000 in
theorem i47_16 : INS 47 16 = some (0, 1, 0, 2, .null, []) := rfl
set_option maxRecDepth 100000 in
theorem i47_17 : INS 47 17 = some (0, 2, 4, 0, .null, []) := rfl
set_option maxRecDepth 100000 in
theorem i47_19 : INS 47 19 = some (0, 1, 2, 0, .null, []) := rfl
set_option maxRecDepth 100000 in
theorem i47_20 : INS 47 20 = some (0, 1, 3, 0, .null, []) := rfl
set_option maxRecDepth 100000 in
theorem i47_21 : INS 47 21 = some (24, 3, 49, 0, .null, []) := rfl
set_option maxRecDepth 100000 in
theorem i47_24 : INS 47 24 = some (18, 1, 23, 0, .null, []) := rfl
set_option maxRecDepth 100000 in
theorem i47_25 : INS 47 25 = some (16, 3, 3, 0, .null, []) := rfl
set_option maxRecDepth 100000 in
theorem i47_28 : INS 47 28 = some (9, 3, 33, 0, .null, []) := rfl
set_option maxRecDepth 100000 in
theorem i47_31 : INS 47 31 = some (2, 1, 0, 0, .int 0, []) := rfl
set_option maxRecDepth 100000 in
theorem i47_32 : INS 47 32 = some (27, 1, 0, 0, .null, []) := rfl
set_option maxRecDepth 100000 in
theorem i47_33 : INS 47 33 = some (15, 3, 4, 0, .int 1, []) := rfl
set_option maxRecDepth 100000 in
theorem i47_36 : INS 47 36 = some (12, 3, 3, 0, .null, []) := rfl
set_option maxRecDepth 100000 in
theorem i47_39 : INS 47 39 = some (2, 1, 0, 0, .int 1, []) := rfl
set_option maxRecDepth 100000 in
theorem i47_40 : INS 47 40 = some (27, 1, 0, 0, .null, []) := rfl
set_option maxRecDepth 100000 in
theorem i48_0 : INS 48 0 = some (2, 1, 0, 0, .int 0, []) := rfl
set_option maxRecDepth 100000 in
theorem i48_1 : INS 48 1 = some (1, 2, 4, 0, .null, []) := rfl
set_option maxRecDepth 100000 in
theorem i48_3 : INS 48 3 = some (0, 2, 4, 0, .null, []) := rfl
set_option maxRecDepth 100000 in
theorem i48_5 : INS 48 5 = some (0, 1, 0, 2, .null, []) := rfl
set_option maxRecDepth 100000 in
theorem i48_6 : INS 48 6 = some (16, 3, 4, 8, .null, []) := rfl
set_option maxRecDepth 100000 in
theorem i48_9 : INS 48 9 = some (10, 3, 58, 3, .null, []) := rfl
set_option maxRecDepth 100000 in
theorem i48_12 : INS 48 12 = some (0, 1, 1, 2, .null, []) := rfl
set_option maxRecDepth 100000 in
theorem i48_13 : INS 48 13 = some (0, 1, 0, 2, .null, []) := rfl
set_option maxRecDepth 100000 in
theorem i48_14 : INS 48 14 = some (0, 2, 4, 0, .null, []) := rfl
set_option maxRecDepth 100000 in
theorem i48_16 : INS 48 16 = some (0, 1, 2, 0, .null, []) := rfl
set_option maxRecDepth 100000 in
theorem i48_17 : INS 48 17 = some (0, 1, 3, 0, .null, []) := rfl
set_option maxRecDepth 100000 in
theorem i48_18 : INS 48 18 = some (24, 3, 49, 0, .null, []) := rfl
set_option maxRecDepth 100000 in
theorem i48_21 : INS 48 21 = some (0, 1, 0, 2, .null, []) := rfl
set_option maxRecDepth 100000 in
theorem i48_22 : INS 48 22 = some (16, 3, 4, 2, .null, []) := rfl
set_option maxRecDepth 100000 in
theorem i48_25 : INS 48 25 = some (0, 2, 4, 0, .null, []) := rfl
set_option maxRecDepth 100000 in
theorem i48_27 : INS 48 27 = some (18, 1, 20, 0, .null, []) := rfl
set_option maxRecDepth 100000 in
theorem i48_28 : INS 48 28 = some (0, 1, 0, 2, .null, []) := rfl
set_option maxRecDepth 100000 in
theorem i48_29 : INS 48 29 = some (0, 2, 4, 0, .null, []) := rfl
set_option maxRecDepth 100000 in
theorem i48_31 : INS 48 31 = some (0, 1, 3, 0, .null, []) := rfl
set_option maxRecDepth 100000 in
theorem i48_32 : INS 48 32 = some (24, 3, 50, 0, .null, []) := rfl
set_option maxRecDepth 100000 in
theorem i48_35 : INS 48 35 = some (0, 1, 0, 2, .null, []) := rfl
set_option maxRecDepth 100000 in
theorem i48_36 : INS 48 36 = some (16, 3, 4, 4, .null, []) := rfl
set_option maxRecDepth 100000 in
theorem i48_39 : INS 48 39 = some (0, 2, 4, 0, .null, []) := rfl
set_option maxRecDepth 100000 in
theorem i48_41 : INS 48 41 = some (18, 1, 20, 0, .null, []) := rfl
set_option maxRecDepth 100000 in
theorem i48_42 : INS 48 42 = some (0, 1, 0, 2, .null, []) := rfl
set_option maxRecDepth 100000 in
theorem i48_43 : INS 48 43 = some (16, 3, 4, 5, .null, []) := rfl
set_option maxRecDepth 100000 in
theorem i48_46 : INS 48 46 = some (0, 2, 4, 0, .null, []) := rfl
set_option maxRecDepth 100000 in
theorem i48_48 : INS 48 48 = some (18, 1, 20, 0, .null, []) := rfl
set_option maxRecDepth 100000 in
theorem i48_49 : INS 48 49 = some (24, 3, 14, 0, .null, []) := rfl
set_option maxRecDepth 100000 in
theorem i48_52 : INS 48 52 = some (15, 3, 4, 0, .int 1, []) := rfl
set_option maxRecDepth 100000 in
theorem i48_55 : INS 48 55 = some (12, 3, 3, 0, .null, []) := rfl
set_option maxRecDepth 100000 in
theorem i48_58 : INS 48 58 = some (27, 1, 3, 0, .null, []) := rfl
set_option maxRecDepth 100000 in
theorem i49_0 : INS 49 0 = some (0, 1, 0, 2, .null, []) := rfl
set_option maxRecDepth 100000 in
theorem i49_1 : INS 49 1 = some (16, 3, 4, 6, .null, []) := rfl
set_option maxRecDepth 100000 in
theorem i49_4 : INS 49 4 = some (2, 1, 0, 0, .int 1, []) := rfl
set_option maxRecDepth 100000 in
theorem i49_5 : INS 49 5 = some (3, 1, 1, 0, .null, []) := rfl
set_option maxRecDepth 100000 in
theorem i49_6 : INS 49 6 = some (0, 1, 0, 2, .null, []) := rfl
set_option maxRecDepth 100000 in
theorem i49_7 : INS 49 7 = some (16, 3, 4, 0, .null, []) := rfl
set_option maxRecDepth 100000 in
theorem i49_10 : INS 49 10 = some (0, 1, 1, 0, .null, []) := rfl
set_option maxRecDepth 100000 in
theorem i49_11 : INS 49 11 = some (18, 1, 20, 0, .null, []) := rfl
set_option maxRecDepth 100000 in
theorem i49_12 : INS 49 12 = some (3, 1, 1, 0, .null, []) := rfl
set_option maxRecDepth 100000 in
theorem i49_13 : INS 49 13 = some (1, 2, 4, 0, .null, []) := rfl
set_option maxRecDepth 100000 in
theorem i49_15 : INS 49 15 = some (0, 1, 0, 2, .null, []) := rfl
set_option maxRecDepth 100000 in
theorem i49_16 : INS 49 16 = some (16, 3, 4, 7, .null, []) := rfl
set_option maxRecDepth 100000 in
theorem i49_19 : INS 49 19 = some (2, 1, 0, 0, .int 1, []) := rfl
set_option maxRecDepth 100000 in
theorem i49_20 : INS 49 20 = some (3, 1, 1, 0, .null, []) := rfl
set_option maxRecDepth 100000 in
theorem i49_21 : INS 49 21 = some (0, 1, 0, 2, .null, []) := rfl
set_option maxRecDepth 100000 in
theorem i49_22 : INS 49 22 = some (16, 3, 4, 1, .null, []) := rfl
set_option maxRecDepth 100000 in
theorem i49_25 : INS 49 25 = some (0, 1, 1, 0, .null, []) := rfl
set_option maxRecDepth 100000 in
theorem i49_26 : INS 49 26 = some (18, 1, 20, 0, .null, []) := rfl
set_option maxRecDepth 100000 in
theorem i49_27 : INS 49 27 = some (3, 1, 1, 0, .null, []) := rfl
set_option maxRecDepth 100000 in
theorem i49_28 : INS 49 28 = some (1, 2, 5, 0, .null, []) := rfl
set_option maxRecDepth 100000 in
theorem i49_30 : INS 49 30 = some (0, 1, 3, 0, .null, []) := rfl
set_option maxRecDepth 100000 in
theorem i49_31 : INS 49 31 = some (13, 25, 101, 0, .null, [56, 75, 90]) := rfl
set_option maxRecDepth 100000 in
theorem i49_56 : INS 49 56 = some (0, 1, 2, 0, .null, []) := rfl
set_option maxRecDepth 100000 in
theorem i49_57 : INS 49 57 = some (2, 2, 0, 0, .int 12, []) := rfl
set_option maxRecDepth 100000 in
theorem i49_59 : INS 49 59 = some (0, 1, 0, 2, .null, []) := rfl
set_option maxRecDepth 100000 in
theorem i49_60 : INS 49 60 = some (16, 3, 4, 1, .null, []) := rfl
set_option maxRecDepth 100000 in
theorem i49_63 : INS 49 63 = some (0, 1, 1, 0, .null, []) := rfl
set_option maxRecDepth 100000 in
theorem i49_64 : INS 49 64 = some (18, 1, 20, 0, .null, []) := rfl
set_option maxRecDepth 100000 in
theorem i49_65 : INS 49 65 = some (3, 1, 2, 0, .null, []) := rfl
set_option maxRecDepth 100000 in
theorem i49_66 : INS 49 66 = some (3, 1, 0, 0, .null, []) := rfl
set_option maxRecDepth 100000 in
theorem i49_67 : INS 49 67 = some (0, 1, 0, 2, .null, []) := rfl
set_option maxRecDepth 100000 in
theorem i49_68 : INS 49 68 = some (16, 3, 4, 0, .null, []) := rfl
set_option maxRecDepth 100000 in
theorem i49_71 : INS 49 71 = some (0, 1, 1, 0, .null, []) := rfl
set_option maxRecDepth 100000 in
theorem i49_72 : INS 49 72 = some (18, 1, 20, 0, .null, []) := rfl
set_option maxRecDepth 100000 in
theorem i49_73 : INS 49 73 = some (3, 1, 0, 0, .null, []) := rfl
set_option maxRecDepth 100000 in
theorem i49_74 : INS 49 74 = some (27, 1, 0, 0, .null, []) := rfl
set_option maxRecDepth 100000 in
theorem i49_75 : INS 49 75 = some (0, 1, 2, 0, .null, []) := rfl
set_option maxRecDepth 100000 in
theorem i49_76 : INS 49 76 = some (2, 2, 0, 0, .int 12, []) := rfl
set_option maxRecDepth 100000 in
theorem i49_78 : INS 49 78 = some (0, 1, 0, 2, .null, []) := rfl
set_option maxRecDepth 100000 in
theorem i49_79 : INS 49 79 = some (16, 3, 4, 0, .null, []) := rfl
set_option maxRecDepth 100000 in
theorem i49_82 : INS 49 82 = some (0, 1, 1, 0, .null, []) := rfl
set_option maxRecDepth 100000 in
theorem i49_83 : INS 49 83 = some (18, 1, 20, 0, .null, []) := rfl
set_option maxRecDepth 100000 in
theorem i49_84 : INS 49 84 = some (3, 1, 2, 0, .null, []) := rfl
set_option maxRecDepth 100000 in
theorem i49_85 : INS 49 85 = some (3, 1, 0, 0, .null, []) := rfl
set_option maxRecDepth 100000 in
theorem i49_86 : INS 49 86 = some (0, 2, 5, 0, .null, []) := rfl
set_option maxRecDepth 100000 in
theorem i49_88 : INS 49 88 = some (3, 1, 0, 0, .null, []) := rfl
set_option maxRecDepth 100000 in
theorem i49_89 : INS 49 89 = some (27, 1, 0, 0, .null, []) := rfl
set_option maxRecDepth 100000 in
theorem i49_90 : INS 49 90 = some (0, 1, 2, 0, .null, []) := rfl
set_option maxRecDepth 100000 in
theorem i49_91 : INS 49 91 = some (2, 2, 0, 0, .int 12, []) := rfl
set_option maxRecDepth 100000 in
theorem i49_93 : INS 49 93 = some (0, 2, 5, 0, .null, []) := rfl
set_option maxRecDepth 100000 in
theorem i49_95 : INS 49 95 = some (3, 1, 2, 0, .null, []) := rfl
set_option maxRecDepth 100000 in
theorem i49_96 : INS 49 96 = some (3, 1, 0, 0, .null, []) := rfl
set_option maxRecDepth 100000 in
theorem i49_97 : INS 49 97 = some (0, 2, 4, 0, .null, []) := rfl
set_option maxRecDepth 100000 in
theorem i49_99 : INS 49 99 = some (3, 1, 0, 0, .null, []) := rfl
set_option maxRecDepth 100000 in
theorem i49_100 : INS 49 100 = some (27, 1, 0, 0, .null, []) := rfl
set_option maxRecDepth 100000 in
theorem i49_101 : INS 49 101 = some (0, 1, 2, 0, .null, []) := rfl
set_option maxRecDepth 100000 in
theorem i49_102 : INS 49 102 = some (2, 2, 0, 0, .int 12, []) := rfl
set_option maxRecDepth 100000 in
theorem i49_104 : INS 49 104 = some (0, 2, 4, 0, .null, []) := rfl
set_option maxRecDepth 100000 in
theorem i49_106 : INS 49 106 = some (3, 1, 2, 0, .null, []) := rfl
set_option maxRecDepth 100000 in
theorem i49_107 : INS 49 107 = some (3, 1, 0, 0, .null, []) := rfl
set_option maxRecDepth 100000 in
theorem i49_108 : INS 49 108 = some (0, 1, 0, 2, .null, []) := rfl
set_option maxRecDepth 100000 in
theorem i49_109 : INS 49 109 = some (16, 3, 4, 1, .null, []) := rfl
set_option maxRecDepth 100000 in
theorem i49_112 : INS 49 112 = some (0, 1, 1, 0, .null, []) := rfl
set_option maxRecDepth 100000 in
theorem i49_113 : INS 49 113 = some (18, 1, 20, 0, .null, []) := rfl
set_option maxRecDepth 100000 in
theorem i49_114 : INS 49 114 = some (3, 1, 0, 0, .null, []) := rfl
set_option maxRecDepth 100000 in
theorem i49_115 : INS 49 115 = some (27, 1, 0, 0, .null, []) := rfl
set_option maxRecDepth 100000 in
theorem i50_0 : INS 50 0 = some (0, 1, 0, 2, .null, []) := rfl
set_option maxRecDepth 100000 in
theorem i50_1 : INS 50 1 = some (16, 3, 4, 2, .null, []) := rfl
set_option maxRecDepth 100000 in
theorem i50_4 : INS 50 4 = some (0, 1, 1, 0, .null, []) := rfl
set_option maxRecDepth 100000 in
theorem i50_5 : INS 50 5 = some (18, 1, 20, 0, .null, []) := rfl
set_option maxRecDepth 100000 in
theorem i50_6 : INS 50 6 = some (2, 1, 0, 0, .int 4, []) := rfl
set_option maxRecDepth 100000 in
theorem i50_7 : INS 50 7 = some (10, 3, 33, 1, .null, []) := rfl
set_option maxRecDepth 100000 in
theorem i50_10 : INS 50 10 = some (0, 1, 0, 2, .null, []) := rfl
set_option maxRecDepth 100000 in
theorem i50_11 : INS 50 11 = some (16, 3, 4, 3, .null, []) := rfl
set_option maxRecDepth 100000 in
theorem i50_14 : INS 50 14 = some (0, 1, 1, 0, .null, []) := rfl
set_option maxRecDepth 100000 in
theorem i50_15 : INS 50 15 = some (18, 1, 20, 0, .null, []) := rfl
set_option maxRecDepth 100000 in
theorem i50_16 : INS 50 16 = some (0, 1, 2, 0, .null, []) := rfl
set_option maxRecDepth 100000 in
theorem i50_17 : INS 50 17 = some (3, 1, 8, 0, .null, []) := rfl
set_option maxRecDepth 100000 in
theorem i50_18 : INS 50 18 = some (0, 1, 0, 2, .null, []) := rfl
set_option maxRecDepth 100000 in
theorem i50_19 : INS 50 19 = some (16, 3, 4, 3, .null, []) := rfl
set_option maxRecDepth 100000 in
theorem i50_22 : INS 50 22 = some (0, 1, 1, 0, .null, []) := rfl
set_option maxRecDepth 100000 in
theorem i50_23 : INS 50 23 = some (18, 1, 20, 0, .null, []) := rfl
set_option maxRecDepth 100000 in
theorem i50_24 : INS 50 24 = some (2, 1, 0, 0, .int 4, []) := rfl
set_option maxRecDepth 100000 in
theorem i50_25 : INS 50 25 = some (0, 1, 2, 0, .null, []) := rfl
set_option maxRecDepth 100000 in
theorem i50_26 : INS 50 26 = some (3, 1, 1, 0, .null, []) := rfl
set_option maxRecDepth 100000 in
theorem i50_27 : INS 50 27 = some (3, 1, 9, 0, .null, []) := rfl
set_option maxRecDepth 100000 in
theorem i50_28 : INS 50 28 = some (3, 1, 6, 0, .null, []) := rfl
set_option maxRecDepth 100000 in
theorem i50_29 : INS 50 29 = some (2, 2, 0, 0, .int 15, []) := rfl
set_option maxRecDepth 100000 in
theorem i50_31 : INS 50 31 = some (3, 1, 5, 0, .null, []) := rfl
set_option maxRecDepth 100000 in
theorem i50_32 : INS 50 32 = some (27, 1, 0, 0, .null, []) := rfl
set_option maxRecDepth 100000 in
theorem i50_33 : INS 50 33 = some (0, 1, 0, 2, .null, []) := rfl
set_option maxRecDepth 100000 in
theorem i50_34 : INS 50 34 = some (16, 3, 4, 3, .null, []) := rfl
set_option maxRecDepth 100000 in
theorem i50_37 : INS 50 37 = some (0, 1, 1, 0, .null, []) := rfl
set_option maxRecDepth 100000 in
theorem i50_38 : INS 50 38 = some (18, 1, 20, 0, .null, []) := rfl
set_option maxRecDepth 100000 in
theorem i50_39 : INS 50 39 = some (0, 1, 2, 0, .null, []) := rfl
set_option maxRecDepth 100000 in
theorem i50_40 : INS 50 40 = some (3, 1, 0, 0, .null, []) := rfl
set_option maxRecDepth 100000 in
theorem i50_41 : INS 50 41 = some (2, 1, 0, 0, .int 3, []) := rfl
set_option maxRecDepth 100000 in
theorem i50_42 : INS 50 42 = some (3, 1, 5, 0, .null, []) := rfl
set_option maxRecDepth 100000 in
theorem i50_43 : INS 50 43 = some (27, 1, 0, 0, .null, []) := rfl
set_option maxRecDepth 100000 in
theorem i52_0 : INS 52 0 = some (0, 1, 1, 2, .null, []) := rfl
set_option maxRecDepth 100000 in
theorem i52_1 : INS 52 1 = some (0, 1, 2, 0, .null, []) := rfl
set_option maxRecDepth 100000 in
theorem i52_2 : INS 52 2 = some (24, 3, 3, 0, .null, []) := rfl
set_option maxRecDepth 100000 in
theorem i52_5 : INS 52 5 = some (1, 2, 5, 0, .null, []) := rfl
set_option maxRecDepth 100000 in
theorem i52_7 : INS 52 7 = some (0, 1, 0, 2, .null, []) := rfl
set_option maxRecDepth 100000 in
theorem i52_8 : INS 52 8 = some (0, 1, 1, 2, .null, []) := rfl
set_option maxRecDepth 100000 in
theorem i52_9 : INS 52 9 = some (24, 3, 53, 0, .null, []) := rfl
set_option maxRecDepth 100000 in
theorem i52_12 : INS 52 12 = some (0, 2, 5, 0, .null, []) := rfl
set_option maxRecDepth 100000 in
theorem i52_14 : INS 52 14 = some (2, 1, 0, 0, .int (-1), []) := rfl
set_option maxRecDepth 100000 in
theorem i52_15 : INS 52 15 = some (10, 3, 27, 0, .null, []) := rfl
set_option maxRecDepth 100000 in
theorem i52_18 : INS 52 18 = some (0, 1, 0, 2, .null, []) := rfl
set_option maxRecDepth 100000 in
theorem i52_19 : INS 52 19 = some (0, 2, 5, 0, .null, []) := rfl
set_option maxRecDepth 100000 in
theorem i52_21 : INS 52 21 = some (24, 3, 56, 0, .null, []) := rfl
set_option maxRecDepth 100000 in
theorem i52_24 : INS 52 24 = some (9, 3, 29, 0, .null, []) := rfl
set_option maxRecDepth 100000 in
theorem i52_27 : INS 52 27 = some (2, 1, 0, 0, .int (-1), []) := rfl
set_option maxRecDepth 100000 in
theorem i52_28 : INS 52 28 = some (27, 1, 0, 0, .null, []) := rfl
set_option maxRecDepth 100000 in
theorem i52_29 : INS 52 29 = some (0, 1, 0, 2, .null, []) := rfl
set_option maxRecDepth 100000 in
theorem i52_30 : INS 52 30 = some (0, 2, 4, 0, .null, []) := rfl
set_option maxRecDepth 100000 in
theorem i52_32 : INS 52 32 = some (6, 1, 1, 0, .null, []) := rfl
set_option maxRecDepth 100000 in
theorem i52_33 : INS 52 33 = some (17, 3, 5, 3, .null, []) := rfl
set_option maxRecDepth 100000 in
theorem i52_36 : INS 52 36 = some (2, 1, 0, 0, .int 0, []) := rfl
set_option maxRecDepth 100000 in
theorem i52_37 : INS 52 37 = some (1, 2, 6, 0, .null, []) := rfl
set_option maxRecDepth 100000 in
theorem i52_39 : INS 52 39 = some (0, 2, 6, 0, .null, []) := rfl
set_option maxRecDepth 100000 in
theorem i52_41 : INS 52 41 = some (0, 1, 1, 2, .null, []) := rfl
set_option maxRecDepth 100000 in
theorem i52_42 : INS 52 42 = some (16, 3, 0, 1, .null, []) := rfl
set_option maxRecDepth 100000 in
theorem i52_45 : INS 52 45 = some (10, 3, 74, 3, .null, []) := rfl
set_option maxRecDepth 100000 in
theorem i52_48 : INS 52 48 = some (0, 1, 0, 2, .null, []) := rfl
set_option maxRecDepth 100000 in
theorem i52_49 : INS 52 49 = some (8, 1, 0, 0, .null, []) := rfl
set_option maxRecDepth 100000 in
theorem i52_50 : INS 52 50 = some (16, 3, 5, 3, .null, []) := rfl
set_option maxRecDepth 100000 in
theorem i52_53 : INS 52 53 = some (0, 1, 1, 2, .null, []) := rfl
set_option maxRecDepth 100000 in
theorem i52_54 : INS 52 54 = some (16, 3, 0, 0, .null, []) := rfl
set_option maxRecDepth 100000 in
theorem i52_57 : INS 52 57 = some (0, 2, 6, 0, .null, []) := rfl
set_option maxRecDepth 100000 in
theorem i52_59 : INS 52 59 = some (18, 1, 23, 0, .null, []) := rfl
set_option maxRecDepth 100000 in
theorem i52_60 : INS 52 60 = some (16, 3, 6, 1, .null, []) := rfl
set_option maxRecDepth 100000 in
theorem i52_63 : INS 52 63 = some (6, 1, 1, 0, .null, []) := rfl
set_option maxRecDepth 100000 in
theorem i52_64 : INS 52 64 = some (4, 1, 2, 0, .null, []) := rfl
set_option maxRecDepth 100000 in
theorem i52_65 : INS 52 65 = some (17, 3, 5, 3, .null, []) := rfl
set_option maxRecDepth 100000 in
theorem i52_68 : INS 52 68 = some (15, 3, 6, 0, .int 1, []) := rfl
set_option maxRecDepth 100000 in
theorem i52_71 : INS 52 71 = some (12, 3, 39, 0, .null, []) := rfl
set_option maxRecDepth 100000 in
theorem i52_74 : INS 52 74 = some (0, 1, 0, 2, .null, []) := rfl
set_option maxRecDepth 100000 in
theorem i52_75 : INS 52 75 = some (16, 3, 5, 1, .null, []) := rfl
set_option maxRecDepth 100000 in
theorem i52_78 : INS 52 78 = some (2, 1, 0, 0, .long 0, []) := rfl
set_option maxRecDepth 100000 in
theorem i52_79 : INS 52 79 = some (24, 3, 198, 2, .null, []) := rfl
set_option maxRecDepth 100000 in
theorem i52_82 : INS 52 82 = some (0, 1, 0, 2, .null, []) := rfl
set_option maxRecDepth 100000 in
theorem i52_83 : INS 52 83 = some (16, 3, 5, 0, .null, []) := rfl
set_option maxRecDepth 100000 in
theorem i52_86 : INS 52 86 = some (2, 1, 0, 0, .int 0, []) := rfl
set_option maxRecDepth 100000 in
theorem i52_87 : INS 52 87 = some (24, 3, 199, 2, .null, []) := rfl
set_option maxRecDepth 100000 in
theorem i52_90 : INS 52 90 = some (0, 1, 0, 2, .null, []) := rfl
set_option maxRecDepth 100000 in
theorem i52_91 : INS 52 91 = some (16, 3, 5, 1, .null, []) := rfl
set_option maxRecDepth 100000 in
theorem i52_94 : INS 52 94 = some (0, 1, 2, 0, .null, []) := rfl
set_option maxRecDepth 100000 in
theorem i52_95 : INS 52 95 = some (0, 1, 0, 2, .null, []) := rfl
set_option maxRecDepth 100000 in
theorem i52_96 : INS 52 96 = some (16, 3, 5, 3, .null, []) := rfl
set_option maxRecDepth 100000 in
theorem i52_99 : INS 52 99 = some (0, 2, 4, 0, .null, []) := rfl
set_option maxRecDepth 100000 in
theorem i52_101 : INS 52 101 = some (6, 1, 1, 0, .null, []) := rfl
set_option maxRecDepth 100000 in
theorem i52_102 : INS 52 102 = some (4, 1, 3, 0, .null, []) := rfl
set_option maxRecDepth 100000 in
theorem i52_103 : INS 52 103 = some (0, 1, 3, 0, .null, []) := rfl
set_option maxRecDepth 100000 in
theorem i52_104 : INS 52 104 = some (6, 1, 1, 0, .null, []) := rfl
set_option maxRecDepth 100000 in
theorem i52_105 : INS 52 105 = some (4, 1, 2, 0, .null, []) := rfl
set_option maxRecDepth 100000 in
theorem i52_106 : INS 52 106 = some (19, 1, 21, 0, .null, []) := rfl
set_option maxRecDepth 100000 in
theorem i52_107 : INS 52 107 = some (0, 1, 0, 2, .null, []) := rfl
set_option maxRecDepth 100000 in
theorem i52_108 : INS 52 108 = some (0, 1, 1, 2, .null, []) := rfl
set_option maxRecDepth 100000 in
theorem i52_109 : INS 52 109 = some (0, 1, 0, 2, .null, []) := rfl
set_option maxRecDepth 100000 in
theorem i52_110 : INS 52 110 = some (16, 3, 5, 2, .null, []) := rfl
set_option maxRecDepth 100000 in
theorem i52_113 : INS 52 113 = some (0, 2, 5, 0, .null, []) := rfl
set_option maxRecDepth 100000 in
theorem i52_115 : INS 52 115 = some (18, 1, 20, 0, .null, []) := rfl
set_option maxRecDepth 100000 in
theorem i52_116 : INS 52 116 = some (2, 1, 0, 0, .int 1, []) := rfl
set_option maxRecDepth 100000 in
theorem i52_117 : INS 52 117 = some (0, 2, 5, 0, .null, []) := rfl
set_option maxRecDepth 100000 in
theorem i52_119 : INS 52 119 = some (3, 1, 8, 0, .null, []) := rfl
set_option maxRecDepth 100000 in
theorem i52_120 : INS 52 120 = some (3, 1, 6, 0, .null, []) := rfl
set_option maxRecDepth 100000 in
theorem i52_121 : INS 52 121 = some (24, 3, 57, 0, .null, []) := rfl
set_option maxRecDepth 100000 in
theorem i52_124 : INS 52 124 = some (27, 1, 0, 0, .null, []) := rfl
set_option maxRecDepth 100000 in
theorem i53_0 : INS 53 0 = some (0, 1, 0, 2, .null, []) := rfl
set_option maxRecDepth 100000 in
theorem i53_1 : INS 53 1 = some (16, 3, 5, 2, .null, []) := rfl
set_option maxRecDepth 100000 in
theorem i53_4 : INS 53 4 = some (2, 1, 0, 0, .int 0, []) := rfl
set_option maxRecDepth 100000 in
theorem i53_5 : INS 53 5 = some (24, 3, 199, 2, .null, []) := rfl
set_option maxRecDepth 100000 in
theorem i53_8 : INS 53 8 = some (2, 1, 0, 0, .int 0, []) := rfl
set_option maxRecDepth 100000 in
theorem i53_9 : INS 53 9 = some (1, 1, 2, 0, .null, []) := rfl
set_option maxRecDepth 100000 in
theorem i53_10 : INS 53 10 = some (0, 1, 2, 0, .null, []) := rfl
set_option maxRecDepth 100000 in
theorem i53_11 : INS 53 11 = some (0, 1, 1, 2, .null, []) := rfl
set_option maxRecDepth 100000 in
theorem i53_12 : INS 53 12 = some (16, 3, 0, 1, .null, []) := rfl
set_option maxRecDepth 100000 in
theorem i53_15 : INS 53 15 = some (10, 3, 65, 3, .null, []) := rfl
set_option maxRecDepth 100000 in
theorem i53_18 : INS 53 18 = some (0, 1, 0, 2, .null, []) := rfl
set_option maxRecDepth 100000 in
theorem i53_19 : INS 53 19 = some (16, 3, 5, 2, .null, []) := rfl
set_option maxRecDepth 100000 in
theorem i53_22 : INS 53 22 = some (0, 1, 2, 0, .null, []) := rfl
set_option maxRecDepth 100000 in
theorem i53_23 : INS 53 23 = some (0, 1, 0, 2, .null, []) := rfl
set_option maxRecDepth 100000 in
theorem i53_24 : INS 53 24 = some (0, 1, 1, 2, .null, []) := rfl
set_option maxRecDepth 100000 in
theorem i53_25 : INS 53 25 = some (0, 1, 1, 2, .null, []) := rfl
set_option maxRecDepth 100000 in
theorem i53_26 : INS 53 26 = some (16, 3, 0, 0, .null, []) := rfl
set_option maxRecDepth 100000 in
theorem i53_29 : INS 53 29 = some (0, 1, 2, 0, .null, []) := rfl
set_option maxRecDepth 100000 in
theorem i53_30 : INS 53 30 = some (18, 1, 23, 0, .null, []) := rfl
set_option maxRecDepth 100000 in
theorem i53_31 : INS 53 31 = some (16, 3, 6, 4, .null, []) := rfl
set_option maxRecDepth 100000 in
theorem i53_34 : INS 53 34 = some (24, 3, 3, 0, .null, []) := rfl
set_option maxRecDepth 100000 in
theorem i53_37 : INS 53 37 = some (24, 3, 54, 0, .null, []) := rfl
set_option maxRecDepth 100000 in
theorem i53_40 : INS 53 40 = some (0, 1, 0, 2, .null, []) := rfl
set_option maxRecDepth 100000 in
theorem i53_41 : INS 53 41 = some (0, 1, 1, 2, .null, []) := rfl
set_option maxRecDepth 100000 in
theorem i53_42 : INS 53 42 = some (0, 1, 1, 2, .null, []) := rfl
set_option maxRecDepth 100000 in
theorem i53_43 : INS 53 43 = some (16, 3, 0, 0, .null, []) := rfl
set_option maxRecDepth 100000 in
theorem i53_46 : INS 53 46 = some (0, 1, 2, 0, .null, []) := rfl
set_option maxRecDepth 100000 in
theorem i53_47 : INS 53 47 = some (18, 1, 23, 0, .null, []) := rfl
set_option maxRecDepth 100000 in
theorem i53_48 : INS 53 48 = some (16, 3, 6, 6, .null, []) := rfl
set_option maxRecDepth 100000 in
theorem i53_51 : INS 53 51 = some (24, 3, 3, 0, .null, []) := rfl
set_option maxRecDepth 100000 in
theorem i53_54 : INS 53 54 = some (24, 3, 54, 0, .null, []) := rfl
set_option maxRecDepth 100000 in
theorem i53_57 : INS 53 57 = some (3, 1, 6, 0, .null, []) := rfl
set_option maxRecDepth 100000 in
theorem i53_58 : INS 53 58 = some (19, 1, 20, 0, .null, []) := rfl
set_option maxRecDepth 100000 in
theorem i53_59 : INS 53 59 = some (15, 3, 2, 0, .int 1, []) := rfl
set_option maxRecDepth 100000 in
theorem i53_62 : INS 53 62 = some (12, 3, 10, 0, .null, []) := rfl
set_option maxRecDepth 100000 in
theorem i53_65 : INS 53 65 = some (2, 1, 0, 0, .int 0, []) := rfl
set_option maxRecDepth 100000 in
theorem i53_66 : INS 53 66 = some (1, 1, 2, 0, .null, []) := rfl
set_option maxRecDepth 100000 in
theorem i53_67 : INS 53 67 = some (0, 1, 2, 0, .null, []) := rfl
set_option maxRecDepth 100000 in
theorem i53_68 : INS 53 68 = some (0, 1, 1, 2, .null, []) := rfl
set_option maxRecDepth 100000 in
theorem i53_69 : INS 53 69 = some (16, 3, 0, 1, .null, []) := rfl
set_option maxRecDepth 100000 in
theorem i53_72 : INS 53 72 = some (10, 3, 126, 3, .null, []) := rfl
set_option maxRecDepth 100000 in
theorem i53_75 : INS 53 75 = some (2, 1, 0, 0, .int 0, []) := rfl
set_option maxRecDepth 100000 in
theorem i53_76 : INS 53 76 = some (1, 1, 3, 0, .null, []) := rfl
set_option maxRecDepth 100000 in
theorem i53_77 : INS 53 77 = some (0, 1, 3, 0, .null, []) := rfl
set_option maxRecDepth 100000 in
theorem i53_78 : INS 53 78 = some (0, 1, 1, 2, .null, []) := rfl
set_option maxRecDepth 100000 in
theorem i53_79 : INS 53 79 = some (16, 3, 0, 1, .null, []) := rfl
set_option maxRecDepth 100000 in
theorem i53_82 : INS 53 82 = some (10, 3, 120, 3, .null, []) := rfl
set_option maxRecDepth 100000 in
theorem i53_85 : INS 53 85 = some (0, 1, 0, 2, .null, []) := rfl
set_option maxRecDepth 100000 in
theorem i53_86 : INS 53 86 = some (0, 1, 0, 2, .null, []) := rfl
set_option maxRecDepth 100000 in
theorem i53_87 : INS 53 87 = some (16, 3, 5, 2, .null, []) := rfl
set_option maxRecDepth 100000 in
theorem i53_90 : INS 53 90 = some (0, 1, 3, 0, .null, []) := rfl
set_option maxRecDepth 100000 in
theorem i53_91 : INS 53 91 = some (18, 1, 20, 0, .null, []) := rfl
set_option maxRecDepth 100000 in
theorem i53_92 : INS 53 92 = some (0, 1, 2, 0, .null, []) := rfl
set_option maxRecDepth 100000 in
theorem i53_93 : INS 53 93 = some (24, 3, 55, 0, .null, []) := rfl
set_option maxRecDepth 100000 in
theorem i53_96 : INS 53 96 = some (9, 3, 114, 0, .null, []) := rfl
set_option maxRecDepth 100000 in
theorem i53_99 : INS 53 99 = some (0, 1, 0, 2, .null, []) := rfl
set_option maxRecDepth 100000 in
theorem i53_100 : INS 53 100 = some (16, 3, 5, 2, .null, []) := rfl
set_option maxRecDepth 100000 in
theorem i53_103 : INS 53 103 = some (0, 1, 3, 0, .null, []) := rfl
set_option maxRecDepth 100000 in
theorem i53_104 : INS 53 104 = some (8, 1, 2, 0, .null, []) := rfl
set_option maxRecDepth 100000 in
theorem i53_105 : INS 53 105 = some (18, 1, 20, 0, .null, []) := rfl
set_option maxRecDepth 100000 in
theorem i53_106 : INS 53 106 = some (0, 1, 0, 2, .null, []) := rfl
set_option maxRecDepth 100000 in
theorem i53_107 : INS 53 107 = some (16, 3, 5, 2, .null, []) := rfl
set_option maxRecDepth 100000 in
theorem i53_110 : INS 53 110 = some (0, 1, 2, 0, .null, []) := rfl
set_option maxRecDepth 100000 in
theorem i53_111 : INS 53 111 = some (18, 1, 20, 0, .null, []) := rfl
set_option maxRecDepth 100000 in
theorem i53_112 : INS 53 112 = some (3, 1, 6, 0, .null, []) := rfl
set_option maxRecDepth 100000 in
theorem i53_113 : INS 53 113 = some (19, 1, 20, 0, .null, []) := rfl
set_option maxRecDepth 100000 in
theorem i53_114 : INS 53 114 = some (15, 3, 3, 0, .int 1, []) := rfl
set_option maxRecDepth 100000 in
theorem i53_117 : INS 53 117 = some (12, 3, 77, 0, .null, []) := rfl
set_option maxRecDepth 100000 in
theorem i53_120 : INS 53 120 = some (15, 3, 2, 0, .int 1, []) := rfl
set_option maxRecDepth 100000 in
theorem i53_123 : INS 53 123 = some (12, 3, 67, 0, .null, []) := rfl
set_option maxRecDepth 100000 in
theorem i53_126 : INS 53 126 = some (27, 1, 3, 0, .null, []) := rfl
set_option maxRecDepth 100000 in
theorem i56_0 : INS 56 0 = some (0, 1, 0, 2, .null, []) := rfl
set_option maxRecDepth 100000 in
theorem i56_1 : INS 56 1 = some (16, 3, 5, 2, .null, []) := rfl
set_option maxRecDepth 100000 in
theorem i56_4 : INS 56 4 = some (0, 1, 1, 0, .null, []) := rfl
set_option maxRecDepth 100000 in
theorem i56_5 : INS 56 5 = some (18, 1, 20, 0, .null, []) := rfl
set_option maxRecDepth 100000 in
theorem i56_6 : INS 56 6 = some (2, 1, 0, 0, .int 1, []) := rfl
set_option maxRecDepth 100000 in
theorem i56_7 : INS 56 7 = some (0, 1, 1, 0, .null, []) := rfl
set_option maxRecDepth 100000 in
theorem i56_8 : INS 56 8 = some (3, 1, 8, 0, .null, []) := rfl
set_option maxRecDepth 100000 in
theorem i56_9 : INS 56 9 = some (3, 1, 6, 0, .null, []) := rfl
set_option maxRecDepth 100000 in
theorem i56_10 : INS 56 10 = some (1, 1, 2, 0, .null, []) := rfl
set_option maxRecDepth 100000 in
theorem i56_11 : INS 56 11 = some (2, 1, 0, 0, .int 0, []) := rfl
set_option maxRecDepth 100000 in
theorem i56_12 : INS 56 12 = some (1, 1, 3, 0, .null, []) := rfl
set_option maxRecDepth 100000 in
theorem i56_13 : INS 56 13 = some (0, 1, 3, 0, .null, []) := rfl
set_option maxRecDepth 100000 in
theorem i56_14 : INS 56 14 = some (2, 2, 0, 0, .int 8, []) := rfl
set_option maxRecDepth 100000 in
theorem i56_16 : INS 56 16 = some (10, 3, 50, 3, .null, []) := rfl
set_option maxRecDepth 100000 in
theorem i56_19 : INS 56 19 = some (0, 1, 0, 2, .null, []) := rfl
set_option maxRecDepth 100000 in
theorem i56_20 : INS 56 20 = some (0, 1, 2, 0, .null, []) := rfl
set_option maxRecDepth 100000 in
theorem i56_21 : INS 56 21 = some (0, 1, 3, 0, .null, []) := rfl
set_option maxRecDepth 100000 in
theorem i56_22 : INS 56 22 = some (24, 3, 55, 0, .null, []) := rfl
set_option maxRecDepth 100000 in
theorem i56_25 : INS 56 25 = some (9, 3, 44, 0, .null, []) := rfl
set_option maxRecDepth 100000 in
theorem i56_28 : INS 56 28 = some (0, 1, 0, 2, .null, []) := rfl
set_option maxRecDepth 100000 in
theorem i56_29 : INS 56 29 = some (0, 1, 0, 2, .null, []) := rfl
set_option maxRecDepth 100000 in
theorem i56_30 : INS 56 30 = some (16, 3, 5, 2, .null, []) := rfl
set_option maxRecDepth 100000 in
theorem i56_33 : INS 56 33 = some (0, 1, 3, 0, .null, []) := rfl
set_option maxRecDepth 100000 in
theorem i56_34 : INS 56 34 = some (18, 1, 20, 0, .null, []) := rfl
set_option maxRecDepth 100000 in
theorem i56_35 : INS 56 35 = some (0, 1, 3, 0, .null, []) := rfl
set_option maxRecDepth 100000 in
theorem i56_36 : INS 56 36 = some (24, 3, 55, 0, .null, []) := rfl
set_option maxRecDepth 100000 in
theorem i56_39 : INS 56 39 = some (9, 3, 44, 0, .null, []) := rfl
set_option maxRecDepth 100000 in
theorem i56_42 : INS 56 42 = some (2, 1, 0, 0, .int 1, []) := rfl
set_option maxRecDepth 100000 in
theorem i56_43 : INS 56 43 = some (27, 1, 0, 0, .null, []) := rfl
set_option maxRecDepth 100000 in
theorem i56_44 : INS 56 44 = some (15, 3, 3, 0, .int 1, []) := rfl
set_option maxRecDepth 100000 in
theorem i56_47 : INS 56 47 = some (12, 3, 13, 0, .null, []) := rfl
set_option maxRecDepth 100000 in
theorem i56_50 : INS 56 50 = some (2, 1, 0, 0, .int 0, []) := rfl
set_option maxRecDepth 100000 in
theorem i56_51 : INS 56 51 = some (27, 1, 0, 0, .null, []) := rfl
set_option maxRecDepth 100000 in
theorem i57_0 : INS 57 0 = some (0, 1, 2, 0, .null, []) := rfl
set_option maxRecDepth 100000 in
theorem i57_1 : INS 57 1 = some (1, 1, 3, 0, .null, []) := rfl
set_option maxRecDepth 100000 in
theorem i57_2 : INS 57 2 = some (2, 1, 0, 0, .int 0, []) := rfl
set_option maxRecDepth 100000 in
theorem i57_3 : INS 57 3 = some (1, 2, 4, 0, .null, []) := rfl
set_option maxRecDepth 100000 in
theorem i57_5 : INS 57 5 = some (2, 1, 0, 0, .int 0, []) := rfl
set_option maxRecDepth 100000 in
theorem i57_6 : INS 57 6 = some (1, 2, 5, 0, .null, []) := rfl
set_option maxRecDepth 100000 in
theorem i57_8 : INS 57 8 = some (0, 2, 5, 0, .null, []) := rfl
set_option maxRecDepth 100000 in
theorem i57_10 : INS 57 10 = some (2, 2, 0, 0, .int 8, []) := rfl
set_option maxRecDepth 100000 in
theorem i57_12 : INS 57 12 = some (10, 3, 78, 3, .null, []) := rfl
set_option maxRecDepth 100000 in
theorem i57_15 : INS 57 15 = some (0, 1, 0, 2, .null, []) := rfl
set_option maxRecDepth 100000 in
theorem i57_16 : INS 57 16 = some (0, 1, 3, 0, .null, []) := rfl
set_option maxRecDepth 100000 in
theorem i57_17 : INS 57 17 = some (24, 3, 58, 0, .null, []) := rfl
set_option maxRecDepth 100000 in
theorem i57_20 : INS 57 20 = some (1, 2, 6, 0, .null, []) := rfl
set_option maxRecDepth 100000 in
theorem i57_22 : INS 57 22 = some (0, 1, 1, 2, .null, []) := rfl
set_option maxRecDepth 100000 in
theorem i57_23 : INS 57 23 = some (0, 2, 6, 0, .null, []) := rfl
set_option maxRecDepth 100000 in
theorem i57_25 : INS 57 25 = some (24, 3, 2, 0, .null, []) := rfl
set_option maxRecDepth 100000 in
theorem i57_28 : INS 57 28 = some (1, 2, 7, 2, .null, []) := rfl
set_option maxRecDepth 100000 in
theorem i57_30 : INS 57 30 = some (0, 2, 7, 2, .null, []) := rfl
set_option maxRecDepth 100000 in
theorem i57_32 : INS 57 32 = some (11, 3, 38, 1, .null, []) := rfl
set_option maxRecDepth 100000 in
theorem i57_35 : INS 57 35 = some (0, 2, 4, 0, .null, []) := rfl
set_option maxRecDepth 100000 in
theorem i57_37 : INS 57 37 = some (27, 1, 0, 0, .null, []) := rfl
set_option maxRecDepth 100000 in
theorem i57_38 : INS 57 38 = some (0, 1, 3, 0, .null, []) := rfl
set_option maxRecDepth 100000 in
theorem i57_39 : INS 57 39 = some (2, 1, 0, 0, .int 1, []) := rfl
set_option maxRecDepth 100000 in
theorem i57_40 : INS 57 40 = some (0, 2, 6, 0, .null, []) := rfl
set_option maxRecDepth 100000 in
theorem i57_42 : INS 57 42 = some (3, 1, 8, 0, .null, []) := rfl
set_option maxRecDepth 100000 in
theorem i57_43 : INS 57 43 = some (2, 1, 0, 0, .int (-1), []) := rfl
set_option maxRecDepth 100000 in
theorem i57_44 : INS 57 44 = some (3, 1, 7, 0, .null, []) := rfl
set_option maxRecDepth 100000 in
theorem i57_45 : INS 57 45 = some (3, 1, 5, 0, .null, []) := rfl
set_option maxRecDepth 100000 in
theorem i57_46 : INS 57 46 = some (1, 1, 3, 0, .null, []) := rfl
set_option maxRecDepth 100000 in
theorem i57_47 : INS 57 47 = some (0, 1, 0, 2, .null, []) := rfl
set_option maxRecDepth 100000 in
theorem i57_48 : INS 57 48 = some (16, 3, 5, 0, .null, []) := rfl
set_option maxRecDepth 100000 in
theorem i57_51 : INS 57 51 = some (0, 2, 6, 0, .null, []) := rfl
set_option maxRecDepth 100000 in
theorem i57_53 : INS 57 53 = some (0, 1, 0, 2, .null, []) := rfl
set_option maxRecDepth 100000 in
theorem i57_54 : INS 57 54 = some (0, 2, 7, 2, .null, []) := rfl
set_option maxRecDepth 100000 in
theorem i57_56 : INS 57 56 = some (24, 3, 59, 0, .null, []) := rfl
set_option maxRecDepth 100000 in
theorem i57_59 : INS 57 59 = some (19, 1, 20, 0, .null, []) := rfl
set_option maxRecDepth 100000 in
theorem i57_60 : INS 57 60 = some (0, 2, 4, 0, .null, []) := rfl
set_option maxRecDepth 100000 in
theorem i57_62 : INS 57 62 = some (0, 1, 0, 2, .null, []) := rfl
set_option maxRecDepth 100000 in
theorem i57_63 : INS 57 63 = some (16, 3, 5, 0, .null, []) := rfl
set_option maxRecDepth 100000 in
theorem i57_66 : INS 57 66 = some (0, 2, 6, 0, .null, []) := rfl
set_option maxRecDepth 100000 in
theorem i57_68 : INS 57 68 = some (18, 1, 20, 0, .null, []) := rfl
set_option maxRecDepth 100000 in
theorem i57_69 : INS 57 69 = some (3, 1, 0, 0, .null, []) := rfl
set_option maxRecDepth 100000 in
theorem i57_70 : INS 57 70 = some (1, 2, 4, 0, .null, []) := rfl
set_option maxRecDepth 100000 in
theorem i57_72 : INS 57 72 = some (15, 3, 5, 0, .int 1, []) := rfl
set_option maxRecDepth 100000 in
theorem i57_75 : INS 57 75 = some (12, 3, 8, 0, .null, []) := rfl
set_option maxRecDepth 100000 in
theorem i57_78 : INS 57 78 = some (0, 2, 4, 0, .null, []) := rfl
set_option maxRecDepth 100000 in
theorem i57_80 : INS 57 80 = some (27, 1, 0, 0, .null, []) := rfl
set_option maxRecDepth 100000 in
theorem i58_0 : INS 58 0 = some (2, 1, 0, 0, .int 0, []) := rfl
set_option maxRecDepth 100000 in
theorem i58_1 : INS 58 1 = some (1, 1, 2, 0, .null, []) := rfl
set_option maxRecDepth 100000 in
theorem i58_2 : INS 58 2 = some (2, 1, 0, 0, .int 0, []) := rfl
set_option maxRecDepth 100000 in
theorem i58_3 : INS 58 3 = some (1, 1, 3, 0, .null, []) := rfl
set_option maxRecDepth 100000 in
theorem i58_4 : INS 58 4 = some (0, 1, 3, 0, .null, []) := rfl
set_option maxRecDepth 100000 in
theorem i58_5 : INS 58 5 = some (2, 2, 0, 0, .int 8, []) := rfl
set_option maxRecDepth 100000 in
theorem i58_7 : INS 58 7 = some (10, 3, 34, 3, .null, []) := rfl
set_option maxRecDepth 100000 in
theorem i58_10 : INS 58 10 = some (0, 1, 0, 2, .null, []) := rfl
set_option maxRecDepth 100000 in
theorem i58_11 : INS 58 11 = some (0, 1, 1, 0, .null, []) := rfl
set_option maxRecDepth 100000 in
theorem i58_12 : INS 58 12 = some (0, 1, 3, 0, .null, []) := rfl
set_option maxRecDepth 100000 in
theorem i58_13 : INS 58 13 = some (24, 3, 55, 0, .null, []) := rfl
set_option maxRecDepth 100000 in
theorem i58_16 : INS 58 16 = some (9, 3, 28, 0, .null, []) := rfl
set_option maxRecDepth 100000 in
theorem i58_19 : INS 58 19 = some (0, 1, 2, 0, .null, []) := rfl
set_option maxRecDepth 100000 in
theorem i58_20 : INS 58 20 = some (0, 1, 0, 2, .null, []) := rfl
set_option maxRecDepth 100000 in
theorem i58_21 : INS 58 21 = some (16, 3, 5, 2, .null, []) := rfl
set_option maxRecDepth 100000 in
theorem i58_24 : INS 58 24 = some (0, 1, 3, 0, .null, []) := rfl
set_option maxRecDepth 100000 in
theorem i58_25 : INS 58 25 = some (18, 1, 20, 0, .null, []) := rfl
set_option maxRecDepth 100000 in
theorem i58_26 : INS 58 26 = some (3, 1, 6, 0, .null, []) := rfl
set_option maxRecDepth 100000 in
theorem i58_27 : INS 58 27 = some (1, 1, 2, 0, .null, []) := rfl
set_option maxRecDepth 100000 in
theorem i58_28 : INS 58 28 = some (15, 3, 3, 0, .int 1, []) := rfl
set_option maxRecDepth 100000 in
theorem i58_31 : INS 58 31 = some (12, 3, 4, 0, .null, []) := rfl
set_option maxRecDepth 100000 in
theorem i58_34 : INS 58 34 = some (2, 1, 0, 0, .int 0, []) := rfl
set_option maxRecDepth 100000 in
theorem i58_35 : INS 58 35 = some (1, 1, 3, 0, .null, []) := rfl
set_option maxRecDepth 100000 in
theorem i58_36 : INS 58 36 = some (0, 1, 3, 0, .null, []) := rfl
set_option maxRecDepth 100000 in
theorem i58_37 : INS 58 37 = some (2, 2, 0, 0, .int 8, []) := rfl
set_option maxRecDepth 100000 in
theorem i58_39 : INS 58 39 = some (10, 3, 68, 3, .null, []) := rfl
set_option maxRecDepth 100000 in
theorem i58_42 : INS 58 42 = some (0, 1, 0, 2, .null, []) := rfl
set_option maxRecDepth 100000 in
theorem i58_43 : INS 58 43 = some (0, 1, 1, 0, .null, []) := rfl
set_option maxRecDepth 100000 in
theorem i58_44 : INS 58 44 = some (0, 1, 3, 0, .null, []) := rfl
set_option maxRecDepth 100000 in
theorem i58_45 : INS 58 45 = some (24, 3, 55, 0, .null, []) := rfl
set_option maxRecDepth 100000 in
theorem i58_48 : INS 58 48 = some (9, 3, 62, 0, .null, []) := rfl
set_option maxRecDepth 100000 in
theorem i58_51 : INS 58 51 = some (0, 1, 0, 2, .null, []) := rfl
set_option maxRecDepth 100000 in
theorem i58_52 : INS 58 52 = some (0, 1, 2, 0, .null, []) := rfl
set_option maxRecDepth 100000 in
theorem i58_53 : INS 58 53 = some (0, 1, 3, 0, .null, []) := rfl
set_option maxRecDepth 100000 in
theorem i58_54 : INS 58 54 = some (24, 3, 55, 0, .null, []) := rfl
set_option maxRecDepth 100000 in
theorem i58_57 : INS 58 57 = some (9, 3, 62, 1, .null, []) := rfl
set_option maxRecDepth 100000 in
theorem i58_60 : INS 58 60 = some (0, 1, 3, 0, .null, []) := rfl
set_option maxRecDepth 100000 in
theorem i58_61 : INS 58 61 = some (27, 1, 0, 0, .null, []) := rfl
set_option maxRecDepth 100000 in
theorem i58_62 : INS 58 62 = some (15, 3, 3, 0, .int 1, []) := rfl
set_option maxRecDepth 100000 in
theorem i58_65 : INS 58 65 = some (12, 3, 36, 0, .null, []) := rfl
set_option maxRecDepth 100000 in
theorem i58_68 : INS 58 68 = some (2, 1, 0, 0, .int (-1), []) := rfl
set_option maxRecDepth 100000 in
theorem i58_69 : INS 58 69 = some (27, 1, 0, 0, .null, []) := rfl
set_option maxRecDepth 100000 in
theorem i59_0 : INS 59 0 = some (0, 1, 0, 2, .null, []) := rfl
set_option maxRecDepth 100000 in
theorem i59_1 : INS 59 1 = some (16, 3, 5, 1, .null, []) := rfl
set_option maxRecDepth 100000 in
theorem i59_4 : INS 59 4 = some (0, 1, 1, 2, .null, []) := rfl
set_option maxRecDepth 100000 in
theorem i59_5 : INS 59 5 = some (16, 3, 6, 0, .null, []) := rfl
set_option maxRecDepth 100000 in
theorem i59_8 : INS 59 8 = some (18, 1, 21, 0, .null, []) := rfl
set_option maxRecDepth 100000 in
theorem i59_9 : INS 59 9 = some (0, 1, 1, 2, .null, []) := rfl
set_option maxRecDepth 100000 in
theorem i59_10 : INS 59 10 = some (16, 3, 6, 1, .null, []) := rfl
set_option maxRecDepth 100000 in
theorem i59_13 : INS 59 13 = some (6, 1, 1, 0, .null, []) := rfl
set_option maxRecDepth 100000 in
theorem i59_14 : INS 59 14 = some (4, 1, 3, 0, .null, []) := rfl
set_option maxRecDepth 100000 in
theorem i59_15 : INS 59 15 = some (1, 1, 2, 1, .null, []) := rfl
set_option maxRecDepth 100000 in
theorem i59_16 : INS 59 16 = some (0, 1, 0, 2, .null, []) := rfl
set_option maxRecDepth 100000 in
theorem i59_17 : INS 59 17 = some (16, 3, 5, 1, .null, []) := rfl
set_option maxRecDepth 100000 in
theorem i59_20 : INS 59 20 = some (0, 1, 1, 2, .null, []) := rfl
set_option maxRecDepth 100000 in
theorem i59_21 : INS 59 21 = some (16, 3, 6, 4, .null, []) := rfl
set_option maxRecDepth 100000 in
theorem i59_24 : INS 59 24 = some (8, 1, 2, 0, .null, []) := rfl
set_option maxRecDepth 100000 in
theorem i59_25 : INS 59 25 = some (18, 1, 21, 0, .null, []) := rfl
set_option maxRecDepth 100000 in
theorem i59_26 : INS 59 26 = some (0, 1, 2, 1, .null, []) := rfl
set_option maxRecDepth 100000 in
theorem i59_27 : INS 59 27 = some (0, 1, 1, 2, .null, []) := rfl
set_option maxRecDepth 100000 in
theorem i59_28 : INS 59 28 = some (16, 3, 6, 5, .null, []) := rfl
set_option maxRecDepth 100000 in
theorem i59_31 : INS 59 31 = some (6, 1, 1, 0, .null, []) := rfl
set_option maxRecDepth 100000 in
theorem i59_32 : INS 59 32 = some (4, 1, 2, 0, .null, []) := rfl
set_option maxRecDepth 100000 in
theorem i59_33 : INS 59 33 = some (4, 1, 0, 0, .null, []) := rfl
set_option maxRecDepth 100000 in
theorem i59_34 : INS 59 34 = some (19, 1, 21, 0, .null, []) := rfl
set_option maxRecDepth 100000 in
theorem i59_35 : INS 59 35 = some (0, 1, 0, 2, .null, []) := rfl
set_option maxRecDepth 100000 in
theorem i59_36 : INS 59 36 = some (16, 3, 5, 1, .null, []) := rfl
set_option maxRecDepth 100000 in
theorem i59_39 : INS 59 39 = some (0, 1, 1, 2, .null, []) := rfl
set_option maxRecDepth 100000 in
theorem i59_40 : INS 59 40 = some (16, 3, 6, 6, .null, []) := rfl
set_option maxRecDepth 100000 in
theorem i59_43 : INS 59 43 = some (8, 1, 2, 0, .null, []) := rfl
set_option maxRecDepth 100000 in
theorem i59_44 : INS 59 44 = some (18, 1, 21, 0, .null, []) := rfl
set_option maxRecDepth 100000 in
theorem i59_45 : INS 59 45 = some (0, 1, 2, 1, .null, []) := rfl
set_option maxRecDepth 100000 in
theorem i59_46 : INS 59 46 = some (0, 1, 1, 2, .null, []) := rfl
set_option maxRecDepth 100000 in
theorem i59_47 : INS 59 47 = some (16, 3, 6, 7, .null, []) := rfl
set_option maxRecDepth 100000 in
theorem i59_50 : INS 59 50 = some (6, 1, 1, 0, .null, []) := rfl
set_option maxRecDepth 100000 in
theorem i59_51 : INS 59 51 = some (4, 1, 2, 0, .null, []) := rfl
set_option maxRecDepth 100000 in
theorem i59_52 : INS 59 52 = some (4, 1, 0, 0, .null, []) := rfl
set_option maxRecDepth 100000 in
theorem i59_53 : INS 59 53 = some (19, 1, 21, 0, .null, []) := rfl
set_option maxRecDepth 100000 in
theorem i59_54 : INS 59 54 = some (0, 1, 2, 1, .null, []) := rfl
set_option maxRecDepth 100000 in
theorem i59_55 : INS 59 55 = some (0, 1, 1, 2, .null, []) := rfl
set_option maxRecDepth 100000 in
theorem i59_56 : INS 59 56 = some (16, 3, 6, 2, .null, []) := rfl
set_option maxRecDepth 100000 in
theorem i59_59 : INS 59 59 = some (6, 1, 1, 0, .null, []) := rfl
set_option maxRecDepth 100000 in
theorem i59_60 : INS 59 60 = some (4, 1, 2, 0, .null, []) := rfl
set_option maxRecDepth 100000 in
theorem i59_61 : INS 59 61 = some (0, 1, 0, 2, .null, []) := rfl
set_option maxRecDepth 100000 in
theorem i59_62 : INS 59 62 = some (16, 3, 5, 3, .null, []) := rfl
set_option maxRecDepth 100000 in
theorem i59_65 : INS 59 65 = some (4, 1, 0, 0, .null, []) := rfl
set_option maxRecDepth 100000 in
theorem i59_66 : INS 59 66 = some (2, 1, 0, 0, .long 1, []) := rfl
set_option maxRecDepth 100000 in
theorem i59_67 : INS 59 67 = some (4, 1, 1, 0, .null, []) := rfl
set_option maxRecDepth 100000 in
theorem i59_68 : INS 59 68 = some (0, 1, 0, 2, .null, []) := rfl
set_option maxRecDepth 100000 in
theorem i59_69 : INS 59 69 = some (16, 3, 5, 3, .null, []) := rfl
set_option maxRecDepth 100000 in
theorem i59_72 : INS 59 72 = some (4, 1, 3, 0, .null, []) := rfl
set_option maxRecDepth 100000 in
theorem i59_73 : INS 59 73 = some (6, 1, 2, 0, .null, []) := rfl
set_option maxRecDepth 100000 in
theorem i59_74 : INS 59 74 = some (27, 1, 0, 0, .null, []) := rfl
set_option maxRecDepth 100000 in
theorem i60_0 : INS 60 0 = some (2, 1, 0, 0, .long 1, []) := rfl
set_option maxRecDepth 100000 in
theorem i60_1 : INS 60 1 = some (0, 1, 0, 2, .null, []) := rfl
set_option maxRecDepth 100000 in
theorem i60_2 : INS 60 2 = some (0, 1, 0, 2, .null, []) := rfl
set_option maxRecDepth 100000 in
theorem i60_3 : INS 60 3 = some (16, 3, 5, 1, .null, []) := rfl
set_option maxRecDepth 100000 in
theorem i60_6 : INS 60 6 = some (0, 1, 1, 0, .null, []) := rfl
set_option maxRecDepth 100000 in
theorem i60_7 : INS 60 7 = some (18, 1, 21, 0, .null, []) := rfl
set_option maxRecDepth 100000 in
theorem i60_8 : INS 60 8 = some (0, 1, 0, 2, .null, []) := rfl
set_option maxRecDepth 100000 in
theorem i60_9 : INS 60 9 = some (16, 3, 5, 3, .null, []) := rfl
set_option maxRecDepth 100000 in
theorem i60_12 : INS 60 12 = some (24, 3, 61, 0, .null, []) := rfl
set_option maxRecDepth 100000 in
theorem i60_15 : INS 60 15 = some (24, 3, 197, 2, .null, []) := rfl
set_option maxRecDepth 100000 in
theorem i60_18 : INS 60 18 = some (1, 1, 3, 1, .null, []) := rfl
set_option maxRecDepth 100000 in
theorem i60_19 : INS 60 19 = some (0, 1, 2, 0, .null, []) := rfl
set_option maxRecDepth 100000 in
theorem i60_20 : INS 60 20 = some (9, 3, 30, 0, .null, []) := rfl
set_option maxRecDepth 100000 in
theorem i60_23 : INS 60 23 = some (0, 1, 0, 2, .null, []) := rfl
set_option maxRecDepth 100000 in
theorem i60_24 : INS 60 24 = some (16, 3, 5, 3, .null, []) := rfl
set_option maxRecDepth 100000 in
theorem i60_27 : INS 60 27 = some (12, 3, 36, 0, .null, []) := rfl
set_option maxRecDepth 100000 in
theorem i60_30 : INS 60 30 = some (0, 1, 0, 2, .null, []) := rfl
set_option maxRecDepth 100000 in
theorem i60_31 : INS 60 31 = some (16, 3, 5, 1, .null, []) := rfl
set_option maxRecDepth 100000 in
theorem i60_34 : INS 60 34 = some (0, 1, 1, 0, .null, []) := rfl
set_option maxRecDepth 100000 in
theorem i60_35 : INS 60 35 = some (18, 1, 21, 0, .null, []) := rfl
set_option maxRecDepth 100000 in
theorem i60_36 : INS 60 36 = some (0, 1, 3, 1, .null, []) := rfl
set_option maxRecDepth 100000 in
theorem i60_37 : INS 60 37 = some (4, 1, 3, 0, .null, []) := rfl
set_option maxRecDepth 100000 in
theorem i60_38 : INS 60 38 = some (27, 1, 1, 0, .null, []) := rfl
set_option maxRecDepth 100000 in
theorem i61_0 : INS 61 0 = some (0, 1, 1, 1, .null, []) := rfl
set_option maxRecDepth 100000 in
theorem i61_1 : INS 61 1 = some (1, 2, 5, 1, .null, []) := rfl
set_option maxRecDepth 100000 in
theorem i61_3 : INS 61 3 = some (0, 1, 3, 1, .null, []) := rfl
set_option maxRecDepth 100000 in
theorem i61_4 : INS 61 4 = some (1, 2, 7, 1, .null, []) := rfl
set_option maxRecDepth 100000 in
theorem i61_6 : INS 61 6 = some (2, 1, 0, 0, .int 0, []) := rfl
set_option maxRecDepth 100000 in
theorem i61_7 : INS 61 7 = some (1, 2, 9, 0, .null, []) := rfl
set_option maxRecDepth 100000 in
theorem i61_9 : INS 61 9 = some (0, 2, 9, 0, .null, []) := rfl
set_option maxRecDepth 100000 in
theorem i61_11 : INS 61 11 = some (2, 3, 0, 0, .int 200, []) := rfl
set_option maxRecDepth 100000 in
theorem i61_14 : INS 61 14 = some (10, 3, 45, 3, .null, []) := rfl
set_option maxRecDepth 100000 in
theorem i61_17 : INS 61 17 = some (0, 2, 7, 1, .null, []) := rfl
set_option maxRecDepth 100000 in
theorem i61_19 : INS 61 19 = some (2, 1, 0, 0, .long 0, []) := rfl
set_option maxRecDepth 100000 in
theorem i61_20 : INS 61 20 = some (7, 1, 0, 0, .null, []) := rfl
set_option maxRecDepth 100000 in
theorem i61_21 : INS 61 21 = some (9, 3, 45, 0, .null, []) := rfl
set_option maxRecDepth 100000 in
theorem i61_24 : INS 61 24 = some (0, 2, 5, 1, .null, []) := rfl
set_option maxRecDepth 100000 in
theorem i61_26 : INS 61 26 = some (0, 2, 7, 1, .null, []) := rfl
set_option maxRecDepth 100000 in
theorem i61_28 : INS 61 28 = some (4, 1, 4, 0, .null, []) := rfl
set_option maxRecDepth 100000 in
theorem i61_29 : INS 61 29 = some (1, 2, 10, 1, .null, []) := rfl
set_option maxRecDepth 100000 in
theorem i61_31 : INS 61 31 = some (0, 2, 7, 1, .null, []) := rfl
set_option maxRecDepth 100000 in
theorem i61_33 : INS 61 33 = some (1, 2, 5, 1, .null, []) := rfl
set_option maxRecDepth 100000 in
theorem i61_35 : INS 61 35 = some (0, 2, 10, 1, .null, []) := rfl
set_option maxRecDepth 100000 in
theorem i61_37 : INS 61 37 = some (1, 2, 7, 1, .null, []) := rfl
set_option maxRecDepth 100000 in
theorem i61_39 : INS 61 39 = some (15, 3, 9, 0, .int 1, []) := rfl
set_option maxRecDepth 100000 in
theorem i61_42 : INS 61 42 = some (12, 3, 9, 0, .null, []) := rfl
set_option maxRecDepth 100000 in
theorem i61_45 : INS 61 45 = some (0, 2, 5, 1, .null, []) := rfl
set_option maxRecDepth 100000 in
theorem i61_47 : INS 61 47 = some (27, 1, 1, 0, .null, []) := rfl
set_option maxRecDepth 100000 in
theorem i62_0 : INS 62 0 = some (0, 1, 0, 2, .null, []) := rfl
set_option maxRecDepth 100000 in
theorem i62_1 : INS 62 1 = some (25, 3, 0, 0, .null, []) := rfl
set_option maxRecDepth 100000 in
theorem i62_4 : INS 62 4 = some (0, 1, 0, 2, .null, []) := rfl
set_option maxRecDepth 100000 in
theorem i62_5 : INS 62 5 = some (0, 1, 1, 0, .null, []) := rfl
set_option maxRecDepth 100000 in
theorem i62_6 : INS 62 6 = some (17, 3, 6, 0, .null, []) := rfl
set_option maxRecDepth 100000 in
theorem i62_9 : INS 62 9 = some (0, 1, 0, 2, .null, []) := rfl
set_option maxRecDepth 100000 in
theorem i62_10 : INS 62 10 = some (0, 1, 2, 0, .null, []) := rfl
set_option maxRecDepth 100000 in
theorem i62_11 : INS 62 11 = some (17, 3, 6, 1, .null, []) := rfl
set_option maxRecDepth 100000 in
theorem i62_14 : INS 62 14 = some (0, 1, 0, 2, .null, []) := rfl
set_option maxRecDepth 100000 in
theorem i62_15 : INS 62 15 = some (0, 1, 3, 0, .null, []) := rfl
set_option maxRecDepth 100000 in
theorem i62_16 : INS 62 16 = some (17, 3, 6, 2, .null, []) := rfl
set_option maxRecDepth 100000 in
theorem i62_19 : INS 62 19 = some (0, 1, 0, 2, .null, []) := rfl
set_option maxRecDepth 100000 in
theorem i62_20 : INS 62 20 = some (0, 2, 4, 0, .null, []) := rfl
set_option maxRecDepth 100000 in
theorem i62_22 : INS 62 22 = some (17, 3, 6, 3, .null, []) := rfl
set_option maxRecDepth 100000 in
theorem i62_25 : INS 62 25 = some (27, 1, 3, 0, .null, []) := rfl
set_option maxRecDepth 100000 in
theorem i63_0 : INS 63 0 = some (0, 1, 0, 2, .null, []) := rfl
set_option maxRecDepth 100000 in
theorem i63_1 : INS 63 1 = some (0, 1, 1, 0, .null, []) := rfl
set_option maxRecDepth 100000 in
theorem i63_2 : INS 63 2 = some (17, 3, 6, 4, .null, []) := rfl
set_option maxRecDepth 100000 in
theorem i63_5 : INS 63 5 = some (0, 1, 0, 2, .null, []) := rfl
set_option maxRecDepth 100000 in
theorem i63_6 : INS 63 6 = some (0, 1, 2, 0, .null, []) := rfl
set_option maxRecDepth 100000 in
theorem i63_7 : INS 63 7 = some (17, 3, 6, 5, .null, []) := rfl
set_option maxRecDepth 100000 in
theorem i63_10 : INS 63 10 = some (0, 1, 0, 2, .null, []) := rfl
set_option maxRecDepth 100000 in
theorem i63_11 : INS 63 11 = some (0, 1, 3, 0, .null, []) := rfl
set_option maxRecDepth 100000 in
theorem i63_12 : INS 63 12 = some (17, 3, 6, 6, .null, []) := rfl
set_option maxRecDepth 100000 in
theorem i63_15 : INS 63 15 = some (0, 1, 0, 2, .null, []) := rfl
set_option maxRecDepth 100000 in
theorem i63_16 : INS 63 16 = some (0, 2, 4, 0, .null, []) := rfl
set_option maxRecDepth 100000 in
theorem i63_18 : INS 63 18 = some (17, 3, 6, 7, .null, []) := rfl
set_option maxRecDepth 100000 in
theorem i63_21 : INS 63 21 = some (27, 1, 3, 0, .null, []) := rfl
set_option maxRecDepth 100000 in
theorem i65_0 : INS 65 0 = some (0, 1, 2, 0, .null, []) := rfl
set_option maxRecDepth 100000 in
theorem i65_1 : INS 65 1 = some (24, 3, 115, 5, .null, []) := rfl
set_option maxRecDepth 100000 in
theorem i65_4 : INS 65 4 = some (9, 3, 19, 0, .null, []) := rfl
set_option maxRecDepth 100000 in
theorem i65_7 : INS 65 7 = some (0, 1, 3, 0, .null, []) := rfl
set_option maxRecDepth 100000 in
theorem i65_8 : INS 65 8 = some (24, 3, 115, 5, .null, []) := rfl
set_option maxRecDepth 100000 in
theorem i65_11 : INS 65 11 = some (9, 3, 19, 0, .null, []) := rfl
set_option maxRecDepth 100000 in
theorem i65_14 : INS 65 14 = some (0, 1, 2, 0, .null, []) := rfl
set_option maxRecDepth 100000 in
theorem i65_15 : INS 65 15 = some (0, 1, 3, 0, .null, []) := rfl
set_option maxRecDepth 100000 in
theorem i65_16 : INS 65 16 = some (10, 3, 21, 1, .null, []) := rfl
set_option maxRecDepth 100000 in
theorem i65_19 : INS 65 19 = some (2, 1, 0, 0, .int (-1), []) := rfl
set_option maxRecDepth 100000 in
theorem i65_20 : INS 65 20 = some (27, 1, 0, 0, .null, []) := rfl
set_option maxRecDepth 100000 in
theorem i65_21 : INS 65 21 = some (0, 1, 0, 2, .null, []) := rfl
set_option maxRecDepth 100000 in
theorem i65_22 : INS 65 22 = some (0, 1, 1, 2, .null, []) := rfl
set_option maxRecDepth 100000 in
theorem i65_23 : INS 65 23 = some (16, 3, 2, 1, .null, []) := rfl
set_option maxRecDepth 100000 in
theorem i65_26 : INS 65 26 = some (0, 1, 2, 0, .null, []) := rfl
set_option maxRecDepth 100000 in
theorem i65_27 : INS 65 27 = some (18, 1, 23, 0, .null, []) := rfl
set_option maxRecDepth 100000 in
theorem i65_28 : INS 65 28 = some (16, 3, 3, 0, .null, []) := rfl
set_option maxRecDepth 100000 in
theorem i65_31 : INS 65 31 = some (24, 3, 66, 0, .null, []) := rfl
set_option maxRecDepth 100000 in
theorem i65_34 : INS 65 34 = some (9, 3, 53, 0, .null, []) := rfl
set_option maxRecDepth 100000 in
theorem i65_37 : INS 65 37 = some (0, 1, 0, 2, .null, []) := rfl
set_option maxRecDepth 100000 in
theorem i65_38 : INS 65 38 = some (0, 1, 1, 2, .null, []) := rfl
set_option maxRecDepth 100000 in
theorem i65_39 : INS 65 39 = some (16, 3, 2, 1, .null, []) := rfl
set_option maxRecDepth 100000 in
theorem i65_42 : INS 65 42 = some (0, 1, 3, 0, .null, []) := rfl
set_option maxRecDepth 100000 in
theorem i65_43 : INS 65 43 = some (18, 1, 23, 0, .null, []) := rfl
set_option maxRecDepth 100000 in
theorem i65_44 : INS 65 44 = some (16, 3, 3, 0, .null, []) := rfl
set_option maxRecDepth 100000 in
theorem i65_47 : INS 65 47 = some (24, 3, 67, 0, .null, []) := rfl
set_option maxRecDepth 100000 in
theorem i65_50 : INS 65 50 = some (9, 3, 55, 1, .null, []) := rfl
set_option maxRecDepth 100000 in
theorem i65_53 : INS 65 53 = some (2, 1, 0, 0, .int (-1), []) := rfl
set_option maxRecDepth 100000 in
theorem i65_54 : INS 65 54 = some (27, 1, 0, 0, .null, []) := rfl
set_option maxRecDepth 100000 in
theorem i65_55 : INS 65 55 = some (0, 1, 0, 2, .null, []) := rfl
set_option maxRecDepth 100000 in
theorem i65_56 : INS 65 56 = some (0, 1, 1, 2, .null, []) := rfl
set_option maxRecDepth 100000 in
theorem i65_57 : INS 65 57 = some (0, 1, 2, 0, .null, []) := rfl
set_option maxRecDepth 100000 in
theorem i65_58 : INS 65 58 = some (0, 1, 3, 0, .null, []) := rfl
set_option maxRecDepth 100000 in
theorem i65_59 : INS 65 59 = some (24, 3, 68, 0, .null, []) := rfl
set_option maxRecDepth 100000 in
theorem i65_62 : INS 65 62 = some (9, 3, 67, 0, .null, []) := rfl
set_option maxRecDepth 100000 in
theorem i65_65 : INS 65 65 = some (2, 1, 0, 0, .int 0, []) := rfl
set_option maxRecDepth 100000 in
theorem i65_66 : INS 65 66 = some (27, 1, 0, 0, .null, []) := rfl
set_option maxRecDepth 100000 in
theorem i65_67 : INS 65 67 = some (0, 1, 0, 2, .null, []) := rfl
set_option maxRecDepth 100000 in
theorem i65_68 : INS 65 68 = some (0, 1, 1, 2, .null, []) := rfl
set_option maxRecDepth 100000 in
theorem i65_69 : INS 65 69 = some (0, 1, 3, 0, .null, []) := rfl
set_option maxRecDepth 100000 in
theorem i65_70 : INS 65 70 = some (24, 3, 70, 0, .null, []) := rfl
set_option maxRecDepth 100000 in
theorem i65_73 : INS 65 73 = some (2, 1, 0, 0, .int (-1), []) := rfl
set_option maxRecDepth 100000 in
theorem i65_74 : INS 65 74 = some (1, 2, 4, 0, .null, []) := rfl
set_option maxRecDepth 100000 in
theorem i65_76 : INS 65 76 = some (2, 1, 0, 0, .int 0, []) := rfl
set_option maxRecDepth 100000 in
theorem i65_77 : INS 65 77 = some (1, 2, 5, 0, .null, []) := rfl
set_option maxRecDepth 100000 in
theorem i65_79 : INS 65 79 = some (0, 2, 5, 0, .null, []) := rfl
set_option maxRecDepth 100000 in
theorem i65_81 : INS 65 81 = some (2, 1, 0, 0, .int 4, []) := rfl
set_option maxRecDepth 100000 in
theorem i65_82 : INS 65 82 = some (10, 3, 123, 3, .null, []) := rfl
set_option maxRecDepth 100000 in
theorem i65_85 : INS 65 85 = some (0, 1, 0, 2, .null, []) := rfl
set_option maxRecDepth 100000 in
theorem i65_86 : INS 65 86 = some (0, 1, 1, 2, .null, []) := rfl
set_option maxRecDepth 100000 in
theorem i65_87 : INS 65 87 = some (0, 1, 2, 0, .null, []) := rfl
set_option maxRecDepth 100000 in
theorem i65_88 : INS 65 88 = some (0, 2, 5, 0, .null, []) := rfl
set_option maxRecDepth 100000 in
theorem i65_90 : INS 65 90 = some (24, 3, 69, 0, .null, []) := rfl
set_option maxRecDepth 100000 in
theorem i65_93 : INS 65 93 = some (1, 2, 6, 0, .null, []) := rfl
set_option maxRecDepth 100000 in
theorem i65_95 : INS 65 95 = some (0, 2, 6, 0, .null, []) := rfl
set_option maxRecDepth 100000 in
theorem i65_97 : INS 65 97 = some (9, 3, 117, 5, .null, []) := rfl
set_option maxRecDepth 100000 in
theorem i65_100 : INS 65 100 = some (0, 2, 4, 0, .null, []) := rfl
set_option maxRecDepth 100000 in
theorem i65_102 : INS 65 102 = some (2, 1, 0, 0, .int (-1), []) := rfl
set_option maxRecDepth 100000 in
theorem i65_103 : INS 65 103 = some (10, 3, 113, 0, .null, []) := rfl
set_option maxRecDepth 100000 in
theorem i65_106 : INS 65 106 = some (0, 2, 6, 0, .null, []) := rfl
set_option maxRecDepth 100000 in
theorem i65_108 : INS 65 108 = some (0, 2, 4, 0, .null, []) := rfl
set_option maxRecDepth 100000 in
theorem i65_110 : INS 65 110 = some (10, 3, 117, 3, .null, []) := rfl
set_option maxRecDepth 100000 in
theorem i65_113 : INS 65 113 = some (0, 2, 6, 0, .null, []) := rfl
set_option maxRecDepth 100000 in
theorem i65_115 : INS 65 115 = some (1, 2, 4, 0, .null, []) := rfl
set_option maxRecDepth 100000 in
theorem i65_117 : INS 65 117 = some (15, 3, 5, 0, .int 1, []) := rfl
set_option maxRecDepth 100000 in
theorem i65_120 : INS 65 120 = some (12, 3, 79, 0, .null, []) := rfl
set_option maxRecDepth 100000 in
theorem i65_123 : INS 65 123 = some (0, 2, 4, 0, .null, []) := rfl
set_option maxRecDepth 100000 in
theorem i65_125 : INS 65 125 = some (27, 1, 0, 0, .null, []) := rfl
set_option maxRecDepth 100000 in
theorem i68_0 : INS 68 0 = some (2, 1, 0, 0, .int 0, []) := rfl
set_option maxRecDepth 100000 in
theorem i68_1 : INS 68 1 = some (1, 2, 4, 0, .null, []) := rfl
set_option maxRecDepth 100000 in
theorem i68_3 : INS 68 3 = some (0, 2, 4, 0, .null, []) := rfl
set_option maxRecDepth 100000 in
theorem i68_5 : INS 68 5 = some (2, 1, 0, 0, .int 4, []) := rfl
set_option maxRecDepth 100000 in
theorem i68_6 : INS 68 6 = some (10, 3, 62, 3, .null, []) := rfl
set_option maxRecDepth 100000 in
theorem i68_9 : INS 68 9 = some (0, 1, 1, 2, .null, []) := rfl
set_option maxRecDepth 100000 in
theorem i68_10 : INS 68 10 = some (16, 3, 2, 1, .null, []) := rfl
set_option maxRecDepth 100000 in
theorem i68_13 : INS 68 13 = some (0, 1, 2, 0, .null, []) := rfl
set_option maxRecDepth 100000 in
theorem i68_14 : INS 68 14 = some (18, 1, 23, 0, .null, []) := rfl
set_option maxRecDepth 100000 in
theorem i68_15 : INS 68 15 = some (0, 2, 4, 0, .null, []) := rfl
set_option maxRecDepth 100000 in
theorem i68_17 : INS 68 17 = some (24, 3, 29, 0, .null, []) := rfl
set_option maxRecDepth 100000 in
theorem i68_20 : INS 68 20 = some (9, 3, 56, 0, .null, []) := rfl
set_option maxRecDepth 100000 in
theorem i68_23 : INS 68 23 = some (0, 1, 2, 0, .null, []) := rfl
set_option maxRecDepth 100000 in
theorem i68_24 : INS 68 24 = some (0, 2, 4, 0, .null, []) := rfl
set_option maxRecDepth 100000 in
theorem i68_26 : INS 68 26 = some (24, 3, 121, 5, .null, []) := rfl
set_option maxRecDepth 100000 in
theorem i68_29 : INS 68 29 = some (0, 1, 3, 0, .null, []) := rfl
set_option maxRecDepth 100000 in
theorem i68_30 : INS 68 30 = some (10, 3, 56, 1, .null, []) := rfl
set_option maxRecDepth 100000 in
theorem i68_33 : INS 68 33 = some (0, 1, 1, 2, .null, []) := rfl
set_option maxRecDepth 100000 in
theorem i68_34 : INS 68 34 = some (16, 3, 2, 1, .null, []) := rfl
set_option maxRecDepth 100000 in
theorem i68_37 : INS 68 37 = some (0, 1, 3, 0, .null, []) := rfl
set_option maxRecDepth 100000 in
theorem i68_38 : INS 68 38 = some (18, 1, 23, 0, .null, []) := rfl
set_option maxRecDepth 100000 in
theorem i68_39 : INS 68 39 = some (0, 2, 4, 0, .null, []) := rfl
set_option maxRecDepth 100000 in
theorem i68_41 : INS 68 41 = some (24, 3, 120, 5, .null, []) := rfl
set_option maxRecDepth 100000 in
theorem i68_44 : INS 68 44 = some (24, 3, 29, 0, .null, []) := rfl
set_option maxRecDepth 100000 in
theorem i68_47 : INS 68 47 = some (9, 3, 54, 1, .null, []) := rfl
set_option maxRecDepth 100000 in
theorem i68_50 : INS 68 50 = some (2, 1, 0, 0, .int 1, []) := rfl
set_option maxRecDepth 100000 in
theorem i68_51 : INS 68 51 = some (12, 3, 55, 0, .null, []) := rfl
set_option maxRecDepth 100000 in
theorem i68_54 : INS 68 54 = some (2, 1, 0, 0, .int 0, []) := rfl
set_option maxRecDepth 100000 in
theorem i68_55 : INS 68 55 = some (27, 1, 0, 0, .null, []) := rfl
set_option maxRecDepth 100000 in
theorem i68_56 : INS 68 56 = some (15, 3, 4, 0, .int 1, []) := rfl
set_option maxRecDepth 100000 in
theorem i68_59 : INS 68 59 = some (12, 3, 3, 0, .null, []) := rfl
set_option maxRecDepth 100000 in
theorem i68_62 : INS 68 62 = some (2, 1, 0, 0, .int 0, []) := rfl
set_option maxRecDepth 100000 in
theorem i68_63 : INS 68 63 = some (27, 1, 0, 0, .null, []) := rfl
set_option maxRecDepth 100000 in
theorem i69_0 : INS 69 0 = some (0, 1, 2, 0, .null, []) := rfl
set_option maxRecDepth 100000 in
theorem i69_1 : INS 69 1 = some (0, 1, 3, 0, .null, []) := rfl
set_option maxRecDepth 100000 in
theorem i69_2 : INS 69 2 = some (24, 3, 121, 5, .null, []) := rfl
set_option maxRecDepth 100000 in
theorem i69_5 : INS 69 5 = some (1, 2, 4, 0, .null, []) := rfl
set_option maxRecDepth 100000 in
theorem i69_7 : INS 69 7 = some (0, 1, 1, 2, .null, []) := rfl
set_option maxRecDepth 100000 in
theorem i69_8 : INS 69 8 = some (16, 3, 2, 1, .null, []) := rfl
set_option maxRecDepth 100000 in
theorem i69_11 : INS 69 11 = some (0, 1, 2, 0, .null, []) := rfl
set_option maxRecDepth 100000 in
theorem i69_12 : INS 69 12 = some (18, 1, 23, 0, .null, []) := rfl
set_option maxRecDepth 100000 in
theorem i69_13 : INS 69 13 = some (0, 1, 3, 0, .null, []) := rfl
set_option maxRecDepth 100000 in
theorem i69_14 : INS 69 14 = some (24, 3, 29, 0, .null, []) := rfl
set_option maxRecDepth 100000 in
theorem i69_17 : INS 69 17 = some (9, 3, 36, 0, .null, []) := rfl
set_option maxRecDepth 100000 in
theorem i69_20 : INS 69 20 = some (0, 2, 4, 0, .null, []) := rfl
set_option maxRecDepth 100000 in
theorem i69_22 : INS 69 22 = some (2, 1, 0, 0, .int (-1), []) := rfl
set_option maxRecDepth 100000 in
theorem i69_23 : INS 69 23 = some (10, 3, 36, 0, .null, []) := rfl
set_option maxRecDepth 100000 in
theorem i69_26 : INS 69 26 = some (0, 1, 0, 2, .null, []) := rfl
set_option maxRecDepth 100000 in
theorem i69_27 : INS 69 27 = some (16, 3, 7, 0, .null, []) := rfl
set_option maxRecDepth 100000 in
theorem i69_30 : INS 69 30 = some (0, 2, 4, 0, .null, []) := rfl
set_option maxRecDepth 100000 in
theorem i69_32 : INS 69 32 = some (18, 1, 20, 0, .null, []) := rfl
set_option maxRecDepth 100000 in
theorem i69_33 : INS 69 33 = some (12, 3, 37, 0, .null, []) := rfl
set_option maxRecDepth 100000 in
theorem i69_36 : INS 69 36 = some (2, 1, 0, 0, .int 0, []) := rfl
set_option maxRecDepth 100000 in
theorem i69_37 : INS 69 37 = some (27, 1, 0, 0, .null, []) := rfl
set_option maxRecDepth 100000 in
theorem i70_0 : INS 70 0 = some (0, 1, 0, 2, .null, []) := rfl
set_option maxRecDepth 100000 in
theorem i70_1 : INS 70 1 = some (16, 3, 7, 0, .null, []) := rfl
set_option maxRecDepth 100000 in
theorem i70_4 : INS 70 4 = some (2, 1, 0, 0, .int 0, []) := rfl
set_option maxRecDepth 100000 in
theorem i70_5 : INS 70 5 = some (24, 3, 199, 2, .null, []) := rfl
set_option maxRecDepth 100000 in
theorem i70_8 : INS 70 8 = some (0, 1, 0, 2, .null, []) := rfl
set_option maxRecDepth 100000 in
theorem i70_9 : INS 70 9 = some (2, 1, 0, 0, .int 0, []) := rfl
set_option maxRecDepth 100000 in
theorem i70_10 : INS 70 10 = some (17, 3, 7, 2, .null, []) := rfl
set_option maxRecDepth 100000 in
theorem i70_13 : INS 70 13 = some (2, 1, 0, 0, .int 0, []) := rfl
set_option maxRecDepth 100000 in
theorem i70_14 : INS 70 14 = some (1, 1, 3, 0, .null, []) := rfl
set_option maxRecDepth 100000 in
theorem i70_15 : INS 70 15 = some (0, 1, 3, 0, .null, []) := rfl
set_option maxRecDepth 100000 in
theorem i70_16 : INS 70 16 = some (2, 1, 0, 0, .int 4, []) := rfl
set_option maxRecDepth 100000 in
theorem i70_17 : INS 70 17 = some (10, 3, 50, 3, .null, []) := rfl
set_option maxRecDepth 100000 in
theorem i70_20 : INS 70 20 = some (0, 1, 1, 2, .null, []) := rfl
set_option maxRecDepth 100000 in
theorem i70_21 : INS 70 21 = some (16, 3, 2, 1, .null, []) := rfl
set_option maxRecDepth 100000 in
theorem i70_24 : INS 70 24 = some (0, 1, 2, 0, .null, []) := rfl
set_option maxRecDepth 100000 in
theorem i70_25 : INS 70 25 = some (18, 1, 23, 0, .null, []) := rfl
set_option maxRecDepth 100000 in
theorem i70_26 : INS 70 26 = some (0, 1, 3, 0, .null, []) := rfl
set_option maxRecDepth 100000 in
theorem i70_27 : INS 70 27 = some (24, 3, 29, 0, .null, []) := rfl
set_option maxRecDepth 100000 in
theorem i70_30 : INS 70 30 = some (9, 3, 44, 1, .null, []) := rfl
set_option maxRecDepth 100000 in
theorem i70_33 : INS 70 33 = some (0, 1, 0, 2, .null, []) := rfl
set_option maxRecDepth 100000 in
theorem i70_34 : INS 70 34 = some (0, 1, 1, 2, .null, []) := rfl
set_option maxRecDepth 100000 in
theorem i70_35 : INS 70 35 = some (0, 1, 2, 0, .null, []) := rfl
set_option maxRecDepth 100000 in
theorem i70_36 : INS 70 36 = some (0, 1, 3, 0, .null, []) := rfl
set_option maxRecDepth 100000 in
theorem i70_37 : INS 70 37 = some (24, 3, 121, 5, .null, []) := rfl
set_option maxRecDepth 100000 in
theorem i70_40 : INS 70 40 = some (2, 1, 0, 0, .int 1, []) := rfl
set_option maxRecDepth 100000 in
theorem i70_41 : INS 70 41 = some (24, 3, 71, 0, .null, []) := rfl
set_option maxRecDepth 100000 in
theorem i70_44 : INS 70 44 = some (15, 3, 3, 0, .int 1, []) := rfl
set_option maxRecDepth 100000 in
theorem i70_47 : INS 70 47 = some (12, 3, 15, 0, .null, []) := rfl
set_option maxRecDepth 100000 in
theorem i70_50 : INS 70 50 = some (2, 1, 0, 0, .int 0, []) := rfl
set_option maxRecDepth 100000 in
theorem i70_51 : INS 70 51 = some (1, 1, 3, 0, .null, []) := rfl
set_option maxRecDepth 100000 in
theorem i70_52 : INS 70 52 = some (0, 1, 3, 0, .null, []) := rfl
set_option maxRecDepth 100000 in
theorem i70_53 : INS 70 53 = some (0, 1, 0, 2, .null, []) := rfl
set_option maxRecDepth 100000 in
theorem i70_54 : INS 70 54 = some (16, 3, 7, 2, .null, []) := rfl
set_option maxRecDepth 100000 in
theorem i70_57 : INS 70 57 = some (10, 3, 110, 3, .null, []) := rfl
set_option maxRecDepth 100000 in
theorem i70_60 : INS 70 60 = some (0, 1, 0, 2, .null, []) := rfl
set_option maxRecDepth 100000 in
theorem i70_61 : INS 70 61 = some (16, 3, 7, 1, .null, []) := rfl
set_option maxRecDepth 100000 in
theorem i70_64 : INS 70 64 = some (0, 1, 3, 0, .null, []) := rfl
set_option maxRecDepth 100000 in
theorem i70_65 : INS 70 65 = some (18, 1, 20, 0, .null, []) := rfl
set_option maxRecDepth 100000 in
theorem i70_66 : INS 70 66 = some (1, 2, 4, 0, .null, []) := rfl
set_option maxRecDepth 100000 in
theorem i70_68 : INS 70 68 = some (2, 1, 0, 0, .int 0, []) := rfl
set_option maxRecDepth 100000 in
theorem i70_69 : INS 70 69 = some (1, 2, 5, 0, .null, []) := rfl
set_option maxRecDepth 100000 in
theorem i70_71 : INS 70 71 = some (0, 2, 5, 0, .null, []) := rfl
set_option maxRecDepth 100000 in
theorem i70_73 : INS 70 73 = some (2, 1, 0, 0, .int 4, []) := rfl
set_option maxRecDepth 100000 in
theorem i70_74 : INS 70 74 = some (10, 3, 104, 3, .null, []) := rfl
set_option maxRecDepth 100000 in
theorem i70_77 : INS 70 77 = some (0, 1, 0, 2, .null, []) := rfl
set_option maxRecDepth 100000 in
theorem i70_78 : INS 70 78 = some (0, 1, 1, 2, .null, []) := rfl
set_option maxRecDepth 100000 in
theorem i70_79 : INS 70 79 = some (0, 2, 4, 0, .null, []) := rfl
set_option maxRecDepth 100000 in
theorem i70_81 : INS 70 81 = some (0, 2, 5, 0, .null, []) := rfl
set_option maxRecDepth 100000 in
theorem i70_83 : INS 70 83 = some (24, 3, 121, 5, .null, []) := rfl
set_option maxRecDepth 100000 in
theorem i70_86 : INS 70 86 = some (0, 1, 0, 2, .null, []) := rfl
set_option maxRecDepth 100000 in
theorem i70_87 : INS 70 87 = some (16, 3, 7, 0, .null, []) := rfl
set_option maxRecDepth 100000 in
theorem i70_90 : INS 70 90 = some (0, 2, 4, 0, .null, []) := rfl
set_option maxRecDepth 100000 in
theorem i70_92 : INS 70 92 = some (18, 1, 20, 0, .null, []) := rfl
set_option maxRecDepth 100000 in
theorem i70_93 : INS 70 93 = some (2, 1, 0, 0, .int 1, []) := rfl
set_option maxRecDepth 100000 in
theorem i70_94 : INS 70 94 = some (3, 1, 0, 0, .null, []) := rfl
set_option maxRecDepth 100000 in
theorem i70_95 : INS 70 95 = some (24, 3, 71, 0, .null, []) := rfl
set_option maxRecDepth 100000 in
theorem i70_98 : INS 70 98 = some (15, 3, 5, 0, .int 1, []) := rfl
set_option maxRecDepth 100000 in
theorem i70_101 : INS 70 101 = some (12, 3, 71, 0, .null, []) := rfl
set_option maxRecDepth 100000 in
theorem i70_104 : INS 70 104 = some (15, 3, 3, 0, .int 1, []) := rfl
set_option maxRecDepth 100000 in
theorem i70_107 : INS 70 107 = some (12, 3, 52, 0, .null, []) := rfl
set_option maxRecDepth 100000 in
theorem i70_110 : INS 70 110 = some (27, 1, 3, 0, .null, []) := rfl
set_option maxRecDepth 100000 in
theorem i71_0 : INS 71 0 = some (0, 1, 2, 0, .null, []) := rfl
set_option maxRecDepth 100000 in
theorem i71_1 : INS 71 1 = some (2, 1, 0, 0, .int (-1), []) := rfl
set_option maxRecDepth 100000 in
theorem i71_2 : INS 71 2 = some (10, 3, 36, 0, .null, []) := rfl
set_option maxRecDepth 100000 in
theorem i71_5 : INS 71 5 = some (0, 1, 0, 2, .null, []) := rfl
set_option maxRecDepth 100000 in
theorem i71_6 : INS 71 6 = some (16, 3, 7, 0, .null, []) := rfl
set_option maxRecDepth 100000 in
theorem i71_9 : INS 71 9 = some (0, 1, 2, 0, .null, []) := rfl
set_option maxRecDepth 100000 in
theorem i71_10 : INS 71 10 = some (18, 1, 20, 0, .null, []) := rfl
set_option maxRecDepth 100000 in
theorem i71_11 : INS 71 11 = some (9, 3, 36, 1, .null, []) := rfl
set_option maxRecDepth 100000 in
theorem i71_14 : INS 71 14 = some (0, 1, 1, 2, .null, []) := rfl
set_option maxRecDepth 100000 in
theorem i71_15 : INS 71 15 = some (16, 3, 2, 1, .null, []) := rfl
set_option maxRecDepth 100000 in
theorem i71_18 : INS 71 18 = some (0, 1, 2, 0, .null, []) := rfl
set_option maxRecDepth 100000 in
theorem i71_19 : INS 71 19 = some (18, 1, 23, 0, .null, []) := rfl
set_option maxRecDepth 100000 in
theorem i71_20 : INS 71 20 = some (16, 3, 3, 0, .null, []) := rfl
set_option maxRecDepth 100000 in
theorem i71_23 : INS 71 23 = some (9, 3, 36, 1, .null, []) := rfl
set_option maxRecDepth 100000 in
theorem i71_26 : INS 71 26 = some (0, 1, 0, 2, .null, []) := rfl
set_option maxRecDepth 100000 in
theorem i71_27 : INS 71 27 = some (16, 3, 7, 2, .null, []) := rfl
set_option maxRecDepth 100000 in
theorem i71_30 : INS 71 30 = some (2, 3, 0, 0, .int 144, []) := rfl
set_option maxRecDepth 100000 in
theorem i71_33 : INS 71 33 = some (10, 3, 37, 2, .null, []) := rfl
set_option maxRecDepth 100000 in
theorem i71_36 : INS 71 36 = some (27, 1, 3, 0, .null, []) := rfl
set_option maxRecDepth 100000 in
theorem i71_37 : INS 71 37 = some (0, 1, 0, 2, .null, []) := rfl
set_option maxRecDepth 100000 in
theorem i71_38 : INS 71 38 = some (16, 3, 7, 0, .null, []) := rfl
set_option maxRecDepth 100000 in
theorem i71_41 : INS 71 41 = some (0, 1, 2, 0, .null, []) := rfl
set_option maxRecDepth 100000 in
theorem i71_42 : INS 71 42 = some (0, 1, 3, 0, .null, []) := rfl
set_option maxRecDepth 100000 in
theorem i71_43 : INS 71 43 = some (19, 1, 20, 0, .null, []) := rfl
set_option maxRecDepth 100000 in
theorem i71_44 : INS 71 44 = some (0, 1, 0, 2, .null, []) := rfl
set_option maxRecDepth 100000 in
theorem i71_45 : INS 71 45 = some (16, 3, 7, 1, .null, []) := rfl
set_option maxRecDepth 100000 in
theorem i71_48 : INS 71 48 = some (0, 1, 0, 2, .null, []) := rfl
set_option maxRecDepth 100000 in
theorem i71_49 : INS 71 49 = some (16, 3, 7, 2, .null, []) := rfl
set_option maxRecDepth 100000 in
theorem i71_52 : INS 71 52 = some (0, 1, 2, 0, .null, []) := rfl
set_option maxRecDepth 100000 in
theorem i71_53 : INS 71 53 = some (19, 1, 20, 0, .null, []) := rfl
set_option maxRecDepth 100000 in
theorem i71_54 : INS 71 54 = some (0, 1, 0, 2, .null, []) := rfl
set_option maxRecDepth 100000 in
theorem i71_55 : INS 71 55 = some (8, 1, 0, 0, .null, []) := rfl
set_option maxRecDepth 100000 in
theorem i71_56 : INS 71 56 = some (16, 3, 7, 2, .null, []) := rfl
set_option maxRecDepth 100000 in
theorem i71_59 : INS 71 59 = some (2, 1, 0, 0, .int 1, []) := rfl
set_option maxRecDepth 100000 in
theorem i71_60 : INS 71 60 = some (3, 1, 0, 0, .null, []) := rfl
set_option maxRecDepth 100000 in
theorem i71_61 : INS 71 61 = some (17, 3, 7, 2, .null, []) := rfl
set_option maxRecDepth 100000 in
theorem i71_64 : INS 71 64 = some (27, 1, 3, 0, .null, []) := rfl
set_option maxRecDepth 100000 in
theorem i72_0 : INS 72 0 = some (0, 1, 0, 2, .null, []) := rfl
set_option maxRecDepth 100000 in
theorem i72_1 : INS 72 1 = some (0, 1, 1, 2, .null, []) := rfl
set_option maxRecDepth 100000 in
theorem i72_2 : INS 72 2 = some (0, 1, 2, 0, .null, []) := rfl
set_option maxRecDepth 100000 in
theorem i72_3 : INS 72 3 = some (0, 2, 4, 0, .null, []) := rfl
set_option maxRecDepth 100000 in
theorem i72_5 : INS 72 5 = some (24, 3, 73, 0, .null, []) := rfl
set_option maxRecDepth 100000 in
theorem i72_8 : INS 72 8 = some (1, 2, 5, 0, .null, []) := rfl
set_option maxRecDepth 100000 in
theorem i72_10 : INS 72 10 = some (0, 2, 4, 0, .null, []) := rfl
set_option maxRecDepth 100000 in
theorem i72_12 : INS 72 12 = some (1, 2, 6, 0, .null, []) := rfl
set_option maxRecDepth 100000 in
theorem i72_14 : INS 72 14 = some (0, 2, 6, 0, .null, []) := rfl
set_option maxRecDepth 100000 in
theorem i72_16 : INS 72 16 = some (9, 3, 79, 5, .null, []) := rfl
set_option maxRecDepth 100000 in
theorem i72_19 : INS 72 19 = some (0, 2, 5, 0, .null, []) := rfl
set_option maxRecDepth 100000 in
theorem i72_21 : INS 72 21 = some (2, 1, 0, 0, .int (-1), []) := rfl
set_option maxRecDepth 100000 in
theorem i72_22 : INS 72 22 = some (10, 3, 79, 0, .null, []) := rfl
set_option maxRecDepth 100000 in
theorem i72_25 : INS 72 25 = some (0, 2, 6, 0, .null, []) := rfl
set_option maxRecDepth 100000 in
theorem i72_27 : INS 72 27 = some (2, 1, 0, 0, .int 1, []) := rfl
set_option maxRecDepth 100000 in
theorem i72_28 : INS 72 28 = some (10, 3, 41, 1, .null, []) := rfl
set_option maxRecDepth 100000 in
theorem i72_31 : INS 72 31 = some (0, 1, 0, 2, .null, []) := rfl
set_option maxRecDepth 100000 in
theorem i72_32 : INS 72 32 = some (0, 2, 5, 0, .null, []) := rfl
set_option maxRecDepth 100000 in
theorem i72_34 : INS 72 34 = some (0, 1, 3, 0, .null, []) := rfl
set_option maxRecDepth 100000 in
theorem i72_35 : INS 72 35 = some (24, 3, 74, 0, .null, []) := rfl
set_option maxRecDepth 100000 in
theorem i72_38 : INS 72 38 = some (12, 3, 51, 0, .null, []) := rfl
set_option maxRecDepth 100000 in
theorem i72_41 : INS 72 41 = some (0, 1, 0, 2, .null, []) := rfl
set_option maxRecDepth 100000 in
theorem i72_42 : INS 72 42 = some (0, 2, 5, 0, .null, []) := rfl
set_option maxRecDepth 100000 in
theorem i72_44 : INS 72 44 = some (0, 2, 6, 0, .null, []) := rfl
set_option maxRecDepth 100000 in
theorem i72_46 : INS 72 46 = some (2, 1, 0, 0, .int 1, []) := rfl
set_option maxRecDepth 100000 in
theorem i72_47 : INS 72 47 = some (3, 1, 1, 0, .null, []) := rfl
set_option maxRecDepth 100000 in
theorem i72_48 : INS 72 48 = some (24, 3, 75, 0, .null, []) := rfl
set_option maxRecDepth 100000 in
theorem i72_51 : INS 72 51 = some (1, 2, 7, 0, .null, []) := rfl
set_option maxRecDepth 100000 in
theorem i72_53 : INS 72 53 = some (0, 1, 1, 2, .null, []) := rfl
set_option maxRecDepth 100000 in
theorem i72_54 : INS 72 54 = some (0, 2, 5, 0, .null, []) := rfl
set_option maxRecDepth 100000 in
theorem i72_56 : INS 72 56 = some (2, 1, 0, 0, .int 1, []) := rfl
set_option maxRecDepth 100000 in
theorem i72_57 : INS 72 57 = some (0, 2, 7, 0, .null, []) := rfl
set_option maxRecDepth 100000 in
theorem i72_59 : INS 72 59 = some (2, 1, 0, 0, .int 0, []) := rfl
set_option maxRecDepth 100000 in
theorem i72_60 : INS 72 60 = some (2, 1, 0, 0, .int 0, []) := rfl
set_option maxRecDepth 100000 in
theorem i72_61 : INS 72 61 = some (24, 3, 14, 0, .null, []) := rfl
set_option maxRecDepth 100000 in
theorem i72_64 : INS 72 64 = some (0, 2, 5, 0, .null, []) := rfl
set_option maxRecDepth 100000 in
theorem i72_66 : INS 72 66 = some (0, 2, 7, 0, .null, []) := rfl
set_option maxRecDepth 100000 in
theorem i72_68 : INS 72 68 = some (24, 3, 121, 5, .null, []) := rfl
set_option maxRecDepth 100000 in
theorem i72_71 : INS 72 71 = some (1, 2, 5, 0, .null, []) := rfl
set_option maxRecDepth 100000 in
theorem i72_73 : INS 72 73 = some (15, 3, 6, 0, .int (-1), []) := rfl
set_option maxRecDepth 100000 in
theorem i72_76 : INS 72 76 = some (12, 3, 14, 0, .null, []) := rfl
set_option maxRecDepth 100000 in
theorem i72_79 : INS 72 79 = some (27, 1, 3, 0, .null, []) := rfl
set_option maxRecDepth 100000 in
theorem i73_0 : INS 73 0 = some (2, 1, 0, 0, .int 0, []) := rfl
set_option maxRecDepth 100000 in
theorem i73_1 : INS 73 1 = some (1, 2, 4, 0, .null, []) := rfl
set_option maxRecDepth 100000 in
theorem i73_3 : INS 73 3 = some (0, 2, 4, 0, .null, []) := rfl
set_option maxRecDepth 100000 in
theorem i73_5 : INS 73 5 = some (2, 1, 0, 0, .int 4, []) := rfl
set_option maxRecDepth 100000 in
theorem i73_6 : INS 73 6 = some (10, 3, 34, 3, .null, []) := rfl
set_option maxRecDepth 100000 in
theorem i73_9 : INS 73 9 = some (0, 1, 0, 2, .null, []) := rfl
set_option maxRecDepth 100000 in
theorem i73_10 : INS 73 10 = some (0, 1, 1, 2, .null, []) := rfl
set_option maxRecDepth 100000 in
theorem i73_11 : INS 73 11 = some (0, 1, 2, 0, .null, []) := rfl
set_option maxRecDepth 100000 in
theorem i73_12 : INS 73 12 = some (0, 2, 4, 0, .null, []) := rfl
set_option maxRecDepth 100000 in
theorem i73_14 : INS 73 14 = some (24, 3, 69, 0, .null, []) := rfl
set_option maxRecDepth 100000 in
theorem i73_17 : INS 73 17 = some (0, 1, 3, 0, .null, []) := rfl
set_option maxRecDepth 100000 in
theorem i73_18 : INS 73 18 = some (10, 3, 28, 1, .null, []) := rfl
set_option maxRecDepth 100000 in
theorem i73_21 : INS 73 21 = some (0, 1, 2, 0, .null, []) := rfl
set_option maxRecDepth 100000 in
theorem i73_22 : INS 73 22 = some (0, 2, 4, 0, .null, []) := rfl
set_option maxRecDepth 100000 in
theorem i73_24 : INS 73 24 = some (24, 3, 121, 5, .null, []) := rfl
set_option maxRecDepth 100000 in
theorem i73_27 : INS 73 27 = some (27, 1, 0, 0, .null, []) := rfl
set_option maxRecDepth 100000 in
theorem i73_28 : INS 73 28 = some (15, 3, 4, 0, .int 1, []) := rfl
set_option maxRecDepth 100000 in
theorem i73_31 : INS 73 31 = some (12, 3, 3, 0, .null, []) := rfl
set_option maxRecDepth 100000 in
theorem i73_34 : INS 73 34 = some (2, 1, 0, 0, .int (-1), []) := rfl
set_option maxRecDepth 100000 in
theorem i73_35 : INS 73 35 = some (27, 1, 0, 0, .null, []) := rfl
set_option maxRecDepth 100000 in
theorem i74_0 : INS 74 0 = some (2, 1, 0, 0, .int 0, []) := rfl
set_option maxRecDepth 100000 in
theorem i74_1 : INS 74 1 = some (1, 1, 3, 0, .null, []) := rfl
set_option maxRecDepth 100000 in
theorem i74_2 : INS 74 2 = some (0, 1, 3, 0, .null, []) := rfl
set_option maxRecDepth 100000 in
theorem i74_3 : INS 74 3 = some (2, 1, 0, 0, .int 3, []) := rfl
set_option maxRecDepth 100000 in
theorem i74_4 : INS 74 4 = some (10, 3, 24, 3, .null, []) := rfl
set_option maxRecDepth 100000 in
theorem i74_7 : INS 74 7 = some (0, 1, 1, 0, .null, []) := rfl
set_option maxRecDepth 100000 in
theorem i74_8 : INS 74 8 = some (0, 1, 3, 0, .null, []) := rfl
set_option maxRecDepth 100000 in
theorem i74_9 : INS 74 9 = some (24, 3, 121, 5, .null, []) := rfl
set_option maxRecDepth 100000 in
theorem i74_12 : INS 74 12 = some (0, 1, 2, 0, .null, []) := rfl
set_option maxRecDepth 100000 in
theorem i74_13 : INS 74 13 = some (10, 3, 18, 1, .null, []) := rfl
set_option maxRecDepth 100000 in
theorem i74_16 : INS 74 16 = some (0, 1, 3, 0, .null, []) := rfl
set_option maxRecDepth 100000 in
theorem i74_17 : INS 74 17 = some (27, 1, 0, 0, .null, []) := rfl
set_option maxRecDepth 100000 in
theorem i74_18 : INS 74 18 = some (15, 3, 3, 0, .int 1, []) := rfl
set_option maxRecDepth 100000 in
theorem i74_21 : INS 74 21 = some (12, 3, 2, 0, .null, []) := rfl
set_option maxRecDepth 100000 in
theorem i74_24 : INS 74 24 = some (2, 1, 0, 0, .int 3, []) := rfl
set_option maxRecDepth 100000 in
theorem i74_25 : INS 74 25 = some (27, 1, 0, 0, .null, []) := rfl
set_option maxRecDepth 100000 in
theorem i75_0 : INS 75 0 = some (2, 1, 0, 0, .int 0, []) := rfl
set_option maxRecDepth 100000 in
theorem i75_1 : INS 75 1 = some (1, 1, 3, 0, .null, []) := rfl
set_option maxRecDepth 100000 in
theorem i75_2 : INS 75 2 = some (0, 1, 3, 0, .null, []) := rfl
set_option maxRecDepth 100000 in
theorem i75_3 : INS 75 3 = some (2, 1, 0, 0, .int 3, []) := rfl
set_option maxRecDepth 100000 in
theorem i75_4 : INS 75 4 = some (10, 3, 39, 3, .null, []) := rfl
set_option maxRecDepth 100000 in
theorem i75_7 : INS 75 7 = some (0, 1, 1, 0, .null, []) := rfl
set_option maxRecDepth 100000 in
theorem i75_8 : INS 75 8 = some (0, 1, 3, 0, .null, []) := rfl
set_option maxRecDepth 100000 in
theorem i75_9 : INS 75 9 = some (24, 3, 121, 5, .null, []) := rfl
set_option maxRecDepth 100000 in
theorem i75_12 : INS 75 12 = some (1, 2, 4, 0, .null, []) := rfl
set_option maxRecDepth 100000 in
theorem i75_14 : INS 75 14 = some (0, 2, 4, 0, .null, []) := rfl
set_option maxRecDepth 100000 in
theorem i75_16 : INS 75 16 = some (2, 1, 0, 0, .int (-1), []) := rfl
set_option maxRecDepth 100000 in
theorem i75_17 : INS 75 17 = some (10, 3, 33, 0, .null, []) := rfl
set_option maxRecDepth 100000 in
theorem i75_20 : INS 75 20 = some (0, 1, 0, 2, .null, []) := rfl
set_option maxRecDepth 100000 in
theorem i75_21 : INS 75 21 = some (16, 3, 7, 0, .null, []) := rfl
set_option maxRecDepth 100000 in
theorem i75_24 : INS 75 24 = some (0, 2, 4, 0, .null, []) := rfl
set_option maxRecDepth 100000 in
theorem i75_26 : INS 75 26 = some (18, 1, 20, 0, .null, []) := rfl
set_option maxRecDepth 100000 in
theorem i75_27 : INS 75 27 = some (0, 1, 2, 0, .null, []) := rfl
set_option maxRecDepth 100000 in
theorem i75_28 : INS 75 28 = some (10, 3, 33, 1, .null, []) := rfl
set_option maxRecDepth 100000 in
theorem i75_31 : INS 75 31 = some (0, 1, 3, 0, .null, []) := rfl
set_option maxRecDepth 100000 in
theorem i75_32 : INS 75 32 = some (27, 1, 0, 0, .null, []) := rfl
set_option maxRecDepth 100000 in
theorem i75_33 : INS 75 33 = some (15, 3, 3, 0, .int 1, []) := rfl
set_option maxRecDepth 100000 in
theorem i75_36 : INS 75 36 = some (12, 3, 2, 0, .null, []) := rfl
set_option maxRecDepth 100000 in
theorem i75_39 : INS 75 39 = some (2, 1, 0, 0, .int 3, []) := rfl
set_option maxRecDepth 100000 in
theorem i75_40 : INS 75 40 = some (27, 1, 0, 0, .null, []) := rfl
set_option maxRecDepth 100000 in
theorem i77_0 : INS 77 0 = some (0, 1, 0, 2, .null, []) := rfl
set_option maxRecDepth 100000 in
theorem i77_1 : INS 77 1 = some (0, 1, 1, 0, .null, []) := rfl
set_option maxRecDepth 100000 in
theorem i77_2 : INS 77 2 = some (17, 3, 8, 1, .null, []) := rfl
set_option maxRecDepth 100000 in
theorem i77_5 : INS 77 5 = some (0, 1, 0, 2, .null, []) := rfl
set_option maxRecDepth 100000 in
theorem i77_6 : INS 77 6 = some (0, 1, 2, 0, .null, []) := rfl
set_option maxRecDepth 100000 in
theorem i77_7 : INS 77 7 = some (17, 3, 8, 2, .null, []) := rfl
set_option maxRecDepth 100000 in
theorem i77_10 : INS 77 10 = some (0, 1, 0, 2, .null, []) := rfl
set_option maxRecDepth 100000 in
theorem i77_11 : INS 77 11 = some (16, 3, 8, 0, .null, []) := rfl
set_option maxRecDepth 100000 in
theorem i77_14 : INS 77 14 = some (2, 1, 0, 0, .long 0, []) := rfl
set_option maxRecDepth 100000 in
theorem i77_15 : INS 77 15 = some (24, 3, 198, 2, .null, []) := rfl
set_option maxRecDepth 100000 in
theorem i77_18 : INS 77 18 = some (27, 1, 3, 0, .null, []) := rfl
set_option maxRecDepth 100000 in
theorem i78_0 : INS 78 0 = some (0, 1, 1, 0, .null, []) := rfl
set_option maxRecDepth 100000 in
theorem i78_1 : INS 78 1 = some (9, 3, 18, 2, .null, []) := rfl
set_option maxRecDepth 100000 in
theorem i78_4 : INS 78 4 = some (0, 1, 1, 0, .null, []) := rfl
set_option maxRecDepth 100000 in
theorem i78_5 : INS 78 5 = some (0, 1, 0, 2, .null, []) := rfl
set_option maxRecDepth 100000 in
theorem i78_6 : INS 78 6 = some (16, 3, 8, 2, .null, []) := rfl
set_option maxRecDepth 100000 in
theorem i78_9 : INS 78 9 = some (0, 1, 2, 0, .null, []) := rfl
set_option maxRecDepth 100000 in
theorem i78_10 : INS 78 10 = some (3, 1, 1, 0, .null, []) := rfl
set_option maxRecDepth 100000 in
theorem i78_11 : INS 78 11 = some (10, 3, 18, 4, .null, []) := rfl
set_option maxRecDepth 100000 in
theorem i78_14 : INS 78 14 = some (2, 1, 0, 0, .int 1, []) := rfl
set_option maxRecDepth 100000 in
theorem i78_15 : INS 78 15 = some (12, 3, 19, 0, .null, []) := rfl
set_option maxRecDepth 100000 in
theorem i78_18 : INS 78 18 = some (2, 1, 0, 0, .int 0, []) := rfl
set_option maxRecDepth 100000 in
theorem i78_19 : INS 78 19 = some (27, 1, 0, 0, .null, []) := rfl
set_option maxRecDepth 100000 in
theorem i79_0 : INS 79 0 = some (0, 1, 0, 2, .null, []) := rfl
set_option maxRecDepth 100000 in
theorem i79_1 : INS 79 1 = some (16, 3, 8, 1, .null, []) := rfl
set_option maxRecDepth 100000 in
theorem i79_4 : INS 79 4 = some (13, 28, 70, 0, .null, [32, 45, 58]) := rfl
set_option maxRecDepth 100000 in
theorem i79_32 : INS 79 32 = some (0, 1, 0, 2, .null, []) := rfl
set_option maxRecDepth 100000 in
theorem i79_33 : INS 79 33 = some (16, 3, 8, 0, .null, []) := rfl
set_option maxRecDepth 100000 in
theorem i79_36 : INS 79 36 = some (0, 1, 1, 0, .null, []) := rfl
set_option maxRecDepth 100000 in
theorem i79_37 : INS 79 37 = some (0, 1, 2, 1, .null, []) := rfl
set_option maxRecDepth 100000 in
theorem i79_38 : INS 79 38 = some (6, 1, 2, 0, .null, []) := rfl
set_option maxRecDepth 100000 in
theorem i79_39 : INS 79 39 = some (6, 1, 3, 0, .null, []) := rfl
set_option maxRecDepth 100000 in
theorem i79_40 : INS 79 40 = some (6, 1, 1, 0, .null, []) := rfl
set_option maxRecDepth 100000 in
theorem i79_41 : INS 79 41 = some (19, 1, 21, 0, .null, []) := rfl
set_option maxRecDepth 100000 in
theorem i79_42 : INS 79 42 = some (12, 3, 77, 0, .null, []) := rfl
set_option maxRecDepth 100000 in
theorem i79_45 : INS 79 45 = some (0, 1, 0, 2, .null, []) := rfl
set_option maxRecDepth 100000 in
theorem i79_46 : INS 79 46 = some (16, 3, 8, 0, .null, []) := rfl
set_option maxRecDepth 100000 in
theorem i79_49 : INS 79 49 = some (0, 1, 1, 0, .null, []) := rfl
set_option maxRecDepth 100000 in
theorem i79_50 : INS 79 50 = some (0, 1, 2, 1, .null, []) := rfl
set_option maxRecDepth 100000 in
theorem i79_51 : INS 79 51 = some (6, 1, 2, 0, .null, []) := rfl
set_option maxRecDepth 100000 in
theorem i79_52 : INS 79 52 = some (6, 1, 4, 0, .null, []) := rfl
set_option maxRecDepth 100000 in
theorem i79_53 : INS 79 53 = some (6, 1, 1, 0, .null, []) := rfl
set_option maxRecDepth 100000 in
theorem i79_54 : INS 79 54 = some (19, 1, 21, 0, .null, []) := rfl
set_option maxRecDepth 100000 in
theorem i79_55 : INS 79 55 = some (12, 3, 77, 0, .null, []) := rfl
set_option maxRecDepth 100000 in
theorem i79_58 : INS 79 58 = some (0, 1, 0, 2, .null, []) := rfl
set_option maxRecDepth 100000 in
theorem i79_59 : INS 79 59 = some (16, 3, 8, 0, .null, []) := rfl
set_option maxRecDepth 100000 in
theorem i79_62 : INS 79 62 = some (0, 1, 1, 0, .null, []) := rfl
set_option maxRecDepth 100000 in
theorem i79_63 : INS 79 63 = some (0, 1, 2, 1, .null, []) := rfl
set_option maxRecDepth 100000 in
theorem i79_64 : INS 79 64 = some (6, 1, 2, 0, .null, []) := rfl
set_option maxRecDepth 100000 in
theorem i79_65 : INS 79 65 = some (6, 1, 1, 0, .null, []) := rfl
set_option maxRecDepth 100000 in
theorem i79_66 : INS 79 66 = some (19, 1, 21, 0, .null, []) := rfl
set_option maxRecDepth 100000 in
theorem i79_67 : INS 79 67 = some (12, 3, 77, 0, .null, []) := rfl
set_option maxRecDepth 100000 in
theorem i79_70 : INS 79 70 = some (0, 1, 0, 2, .null, []) := rfl
set_option maxRecDepth 100000 in
theorem i79_71 : INS 79 71 = some (16, 3, 8, 0, .null, []) := rfl
set_option maxRecDepth 100000 in
theorem i79_74 : INS 79 74 = some (0, 1, 1, 0, .null, []) := rfl
set_option maxRecDepth 100000 in
theorem i79_75 : INS 79 75 = some (0, 1, 2, 1, .null, []) := rfl
set_option maxRecDepth 100000 in
theorem i79_76 : INS 79 76 = some (19, 1, 21, 0, .null, []) := rfl
set_option maxRecDepth 100000 in
theorem i79_77 : INS 79 77 = some (27, 1, 3, 0, .null, []) := rfl
set_option maxRecDepth 100000 in
theorem i80_0 : INS 80 0 = some (0, 1, 0, 2, .null, []) := rfl
set_option maxRecDepth 100000 in
theorem i80_1 : INS 80 1 = some (16, 3, 8, 0, .null, []) := rfl
set_option maxRecDepth 100000 in
theorem i80_4 : INS 80 4 = some (0, 1, 1, 0, .null, []) := rfl
set_option maxRecDepth 100000 in
theorem i80_5 : INS 80 5 = some (18, 1, 21, 0, .null, []) := rfl
set_option maxRecDepth 100000 in
theorem i80_6 : INS 80 6 = some (6, 1, 2, 0, .null, []) := rfl
set_option maxRecDepth 100000 in
theorem i80_7 : INS 80 7 = some (27, 1, 0, 0, .null, []) := rfl
set_option maxRecDepth 100000 in
theorem i82_0 : INS 82 0 = some (0, 1, 0, 2, .null, []) := rfl
set_option maxRecDepth 100000 in
theorem i82_1 : INS 82 1 = some (2, 1, 0, 0, .int 1, []) := rfl
set_option maxRecDepth 100000 in
theorem i82_2 : INS 82 2 = some (17, 3, 9, 2, .null, []) := rfl
set_option maxRecDepth 100000 in
theorem i82_5 : INS 82 5 = some (0, 1, 0, 2, .null, []) := rfl
set_option maxRecDepth 100000 in
theorem i82_6 : INS 82 6 = some (16, 3, 9, 0, .null, []) := rfl
set_option maxRecDepth 100000 in
theorem i82_9 : INS 82 9 = some (0, 1, 1, 0, .null, []) := rfl
set_option maxRecDepth 100000 in
theorem i82_10 : INS 82 10 = some (0, 1, 2, 0, .null, []) := rfl
set_option maxRecDepth 100000 in
theorem i82_11 : INS 82 11 = some (24, 3, 77, 0, .null, []) := rfl
set_option maxRecDepth 100000 in
theorem i82_14 : INS 82 14 = some (27, 1, 3, 0, .null, []) := rfl
set_option maxRecDepth 100000 in
theorem i84_0 : INS 84 0 = some (0, 1, 1, 0, .null, []) := rfl
set_option maxRecDepth 100000 in
theorem i84_1 : INS 84 1 = some (24, 3, 117, 2, .null, []) := rfl
set_option maxRecDepth 100000 in
theorem i84_4 : INS 84 4 = some (9, 3, 82, 0, .null, []) := rfl
set_option maxRecDepth 100000 in
theorem i84_7 : INS 84 7 = some (0, 1, 2, 0, .null, []) := rfl
set_option maxRecDepth 100000 in
theorem i84_8 : INS 84 8 = some (2, 1, 0, 0, .int 1, []) := rfl
set_option maxRecDepth 100000 in
theorem i84_9 : INS 84 9 = some (2, 1, 0, 0, .int 4, []) := rfl
set_option maxRecDepth 100000 in
theorem i84_10 : INS 84 10 = some (24, 3, 114, 2, .null, []) := rfl
set_option maxRecDepth 100000 in
theorem i84_13 : INS 84 13 = some (9, 3, 82, 0, .null, []) := rfl
set_option maxRecDepth 100000 in
theorem i84_16 : INS 84 16 = some (0, 1, 3, 0, .null, []) := rfl
set_option maxRecDepth 100000 in
theorem i84_17 : INS 84 17 = some (2, 1, 0, 0, .int 1, []) := rfl
set_option maxRecDepth 100000 in
theorem i84_18 : INS 84 18 = some (2, 2, 0, 0, .int 60, []) := rfl
set_option maxRecDepth 100000 in
theorem i84_20 : INS 84 20 = some (24, 3, 114, 2, .null, []) := rfl
set_option maxRecDepth 100000 in
theorem i84_23 : INS 84 23 = some (9, 3, 82, 0, .null, []) := rfl
set_option maxRecDepth 100000 in
theorem i84_26 : INS 84 26 = some (0, 2, 8, 0, .null, []) := rfl
set_option maxRecDepth 100000 in
theorem i84_28 : INS 84 28 = some (2, 1, 0, 0, .int 0, []) := rfl
set_option maxRecDepth 100000 in
theorem i84_29 : INS 84 29 = some (2, 2, 0, 0, .int 100, []) := rfl
set_option maxRecDepth 100000 in
theorem i84_31 : INS 84 31 = some (24, 3, 114, 2, .null, []) := rfl
set_option maxRecDepth 100000 in
theorem i84_34 : INS 84 34 = some (9, 3, 82, 0, .null, []) := rfl
set_option maxRecDepth 100000 in
theorem i84_37 : INS 84 37 = some (0, 2, 4, 0, .null, []) := rfl
set_option maxRecDepth 100000 in
theorem i84_39 : INS 84 39 = some (24, 3, 117, 2, .null, []) := rfl
set_option maxRecDepth 100000 in
theorem i84_42 : INS 84 42 = some (9, 3, 82, 0, .null, []) := rfl
set_option maxRecDepth 100000 in
theorem i84_45 : INS 84 45 = some (0, 2, 5, 0, .null, []) := rfl
set_option maxRecDepth 100000 in
theorem i84_47 : INS 84 47 = some (2, 1, 0, 0, .int 1, []) := rfl
set_option maxRecDepth 100000 in
theorem i84_48 : INS 84 48 = some (2, 1, 0, 0, .int 4, []) := rfl
set_option maxRecDepth 100000 in
theorem i84_49 : INS 84 49 = some (24, 3, 114, 2, .null, []) := rfl
set_option maxRecDepth 100000 in
theorem i84_52 : INS 84 52 = some (9, 3, 82, 0, .null, []) := rfl
set_option maxRecDepth 100000 in
theorem i84_55 : INS 84 55 = some (0, 2, 6, 0, .null, []) := rfl
set_option maxRecDepth 100000 in
theorem i84_57 : INS 84 57 = some (9, 3, 78, 0, .null, []) := rfl
set_option maxRecDepth 100000 in
theorem i84_60 : INS 84 60 = some (0, 2, 6, 0, .null, []) := rfl
set_option maxRecDepth 100000 in
theorem i84_62 : INS 84 62 = some (24, 3, 117, 2, .null, []) := rfl
set_option maxRecDepth 100000 in
theorem i84_65 : INS 84 65 = some (9, 3, 82, 0, .null, []) := rfl
set_option maxRecDepth 100000 in
theorem i84_68 : INS 84 68 = some (0, 2, 7, 0, .null, []) := rfl
set_option maxRecDepth 100000 in
theorem i84_70 : INS 84 70 = some (2, 1, 0, 0, .int 1, []) := rfl
set_option maxRecDepth 100000 in
theorem i84_71 : INS 84 71 = some (2, 1, 0, 0, .int 4, []) := rfl
set_option maxRecDepth 100000 in
theorem i84_72 : INS 84 72 = some (24, 3, 114, 2, .null, []) := rfl
set_option maxRecDepth 100000 in
theorem i84_75 : INS 84 75 = some (9, 3, 82, 0, .null, []) := rfl
set_option maxRecDepth 100000 in
theorem i84_78 : INS 84 78 = some (2, 1, 0, 0, .int 1, []) := rfl
set_option maxRecDepth 100000 in
theorem i84_79 : INS 84 79 = some (12, 3, 83, 0, .null, []) := rfl
set_option maxRecDepth 100000 in
theorem i84_82 : INS 84 82 = some (2, 1, 0, 0, .int 0, []) := rfl
set_option maxRecDepth 100000 in
theorem i84_83 : INS 84 83 = some (1, 2, 9, 0, .null, []) := rfl
set_option maxRecDepth 100000 in
theorem i84_85 : INS 84 85 = some (0, 2, 9, 0, .null, []) := rfl
set_option maxRecDepth 100000 in
theorem i84_87 : INS 84 87 = some (9, 3, 109, 0, .null, []) := rfl
set_option maxRecDepth 100000 in
theorem i84_90 : INS 84 90 = some (0, 2, 4, 0, .null, []) := rfl
set_option maxRecDepth 100000 in
theorem i84_92 : INS 84 92 = some (0, 1, 1, 0, .null, []) := rfl
set_option maxRecDepth 100000 in
theorem i84_93 : INS 84 93 = some (10, 3, 109, 0, .null, []) := rfl
set_option maxRecDepth 100000 in
theorem i84_96 : INS 84 96 = some (0, 2, 6, 0, .null, []) := rfl
set_option maxRecDepth 100000 in
theorem i84_98 : INS 84 98 = some (0, 1, 1, 0, .null, []) := rfl
set_option maxRecDepth 100000 in
theorem i84_99 : INS 84 99 = some (10, 3, 109, 0, .null, []) := rfl
set_option maxRecDepth 100000 in
theorem i84_102 : INS 84 102 = some (0, 2, 4, 0, .null, []) := rfl
set_option maxRecDepth 100000 in
theorem i84_104 : INS 84 104 = some (0, 2, 6, 0, .null, []) := rfl
set_option maxRecDepth 100000 in
theorem i84_106 : INS 84 106 = some (10, 3, 116, 1, .null, []) := rfl
set_option maxRecDepth 100000 in
theorem i84_109 : INS 84 109 = some (0, 1, 0, 2, .null, []) := rfl
set_option maxRecDepth 100000 in
theorem i84_110 : INS 84 110 = some (2, 2, 0, 0, .int (-6), []) := rfl
set_option maxRecDepth 100000 in
theorem i84_112 : INS 84 112 = some (24, 3, 109, 0, .null, []) := rfl
set_option maxRecDepth 100000 in
theorem i84_115 : INS 84 115 = some (27, 1, 0, 0, .null, []) := rfl
set_option maxRecDepth 100000 in
theorem i84_116 : INS 84 116 = some (0, 1, 0, 2, .null, []) := rfl
set_option maxRecDepth 100000 in
theorem i84_117 : INS 84 117 = some (16, 3, 10, 1, .null, []) := rfl
set_option maxRecDepth 100000 in
theorem i84_120 : INS 84 120 = some (0, 1, 1, 0, .null, []) := rfl
set_option maxRecDepth 100000 in
theorem i84_121 : INS 84 121 = some (24, 3, 3, 0, .null, []) := rfl
set_option maxRecDepth 100000 in
theorem i84_124 : INS 84 124 = some (2, 1, 0, 0, .int (-1), []) := rfl
set_option maxRecDepth 100000 in
theorem i84_125 : INS 84 125 = some (10, 3, 135, 0, .null, []) := rfl
set_option maxRecDepth 100000 in
theorem i84_128 : INS 84 128 = some (0, 1, 0, 2, .null, []) := rfl
set_option maxRecDepth 100000 in
theorem i84_129 : INS 84 129 = some (2, 2, 0, 0, .int (-6), []) := rfl
set_option maxRecDepth 100000 in
theorem i84_131 : INS 84 131 = some (24, 3, 109, 0, .null, []) := rfl
set_option maxRecDepth 100000 in
theorem i84_134 : INS 84 134 = some (27, 1, 0, 0, .null, []) := rfl
set_option maxRecDepth 100000 in
theorem i84_135 : INS 84 135 = some (0, 1, 0, 2, .null, []) := rfl
set_option maxRecDepth 100000 in
theorem i84_136 : INS 84 136 = some (16, 3, 10, 1, .null, []) := rfl
set_option maxRecDepth 100000 in
theorem i84_139 : INS 84 139 = some (16, 3, 0, 1, .null, []) := rfl
set_option maxRecDepth 100000 in
theorem i84_142 : INS 84 142 = some (2, 2, 0, 0, .int 8, []) := rfl
set_option maxRecDepth 100000 in
theorem i84_144 : INS 84 144 = some (10, 3, 154, 2, .null, []) := rfl
set_option maxRecDepth 100000 in
theorem i84_147 : INS 84 147 = some (0, 1, 0, 2, .null, []) := rfl
set_option maxRecDepth 100000 in
theorem i84_148 : INS 84 148 = some (2, 2, 0, 0, .int (-7), []) := rfl
set_option maxRecDepth 100000 in
theorem i84_150 : INS 84 150 = some (24, 3, 109, 0, .null, []) := rfl
set_option maxRecDepth 100000 in
theorem i84_153 : INS 84 153 = some (27, 1, 0, 0, .null, []) := rfl
set_option maxRecDepth 100000 in
theorem i84_154 : INS 84 154 = some (21, 3, 6, 0, .null, []) := rfl
set_option maxRecDepth 100000 in
theorem i84_157 : INS 84 157 = some (8, 1, 0, 0, .null, []) := rfl
set_option maxRecDepth 100000 in
theorem i84_158 : INS 84 158 = some (0, 1, 1, 0, .null, []) := rfl
set_option maxRecDepth 100000 in
theorem i84_159 : INS 84 159 = some (0, 1, 2, 0, .null, []) := rfl
set_option maxRecDepth 100000 in
theorem i84_160 : INS 84 160 = some (0, 1, 3, 0, .null, []) := rfl
set_option maxRecDepth 100000 in
theorem i84_161 : INS 84 161 = some (0, 2, 8, 0, .null, []) := rfl
set_option maxRecDepth 100000 in
theorem i84_163 : INS 84 163 = some (24, 3, 62, 1, .null, []) := rfl
set_option maxRecDepth 100000 in
theorem i84_166 : INS 84 166 = some (1, 2, 10, 2, .null, []) := rfl
set_option maxRecDepth 100000 in
theorem i84_168 : INS 84 168 = some (0, 2, 10, 2, .null, []) := rfl
set_option maxRecDepth 100000 in
theorem i84_170 : INS 84 170 = some (0, 2, 4, 0, .null, []) := rfl
set_option maxRecDepth 100000 in
theorem i84_172 : INS 84 172 = some (0, 2, 5, 0, .null, []) := rfl
set_option maxRecDepth 100000 in
theorem i84_174 : INS 84 174 = some (0, 2, 6, 0, .null, []) := rfl
set_option maxRecDepth 100000 in
theorem i84_176 : INS 84 176 = some (0, 2, 6, 0, .null, []) := rfl
set_option maxRecDepth 100000 in
theorem i84_178 : INS 84 178 = some (9, 3, 185, 1, .null, []) := rfl
set_option maxRecDepth 100000 in
theorem i84_181 : INS 84 181 = some (2, 1, 0, 0, .int 0, []) := rfl
set_option maxRecDepth 100000 in
theorem i84_182 : INS 84 182 = some (12, 3, 187, 0, .null, []) := rfl
set_option maxRecDepth 100000 in
theorem i84_185 : INS 84 185 = some (0, 2, 7, 0, .null, []) := rfl
set_option maxRecDepth 100000 in
theorem i84_187 : INS 84 187 = some (24, 3, 63, 0, .null, []) := rfl
set_option maxRecDepth 100000 in
theorem i84_190 : INS 84 190 = some (0, 1, 0, 2, .null, []) := rfl
set_option maxRecDepth 100000 in
theorem i84_191 : INS 84 191 = some (16, 3, 10, 1, .null, []) := rfl
set_option maxRecDepth 100000 in
theorem i84_194 : INS 84 194 = some (0, 2, 10, 2, .null, []) := rfl
set_option maxRecDepth 100000 in
theorem i84_196 : INS 84 196 = some (24, 3, 1, 0, .null, []) := rfl
set_option maxRecDepth 100000 in
theorem i84_199 : INS 84 199 = some (27, 1, 0, 0, .null, []) := rfl
set_option maxRecDepth 100000 in
theorem i85_0 : INS 85 0 = some (0, 1, 0, 2, .null, []) := rfl
set_option maxRecDepth 100000 in
theorem i85_1 : INS 85 1 = some (0, 1, 1, 0, .null, []) := rfl
set_option maxRecDepth 100000 in
theorem i85_2 : INS 85 2 = some (0, 1, 2, 0, .null, []) := rfl
set_option maxRecDepth 100000 in
theorem i85_3 : INS 85 3 = some (0, 1, 3, 0, .null, []) := rfl
set_option maxRecDepth 100000 in
theorem i85_4 : INS 85 4 = some (0, 2, 4, 0, .null, []) := rfl
set_option maxRecDepth 100000 in
theorem i85_6 : INS 85 6 = some (0, 2, 5, 0, .null, []) := rfl
set_option maxRecDepth 100000 in
theorem i85_8 : INS 85 8 = some (24, 3, 112, 0, .null, []) := rfl
set_option maxRecDepth 100000 in
theorem i85_11 : INS 85 11 = some (1, 2, 6, 0, .null, []) := rfl
set_option maxRecDepth 100000 in
theorem i85_13 : INS 85 13 = some (0, 2, 6, 0, .null, []) := rfl
set_option maxRecDepth 100000 in
theorem i85_15 : INS 85 15 = some (9, 3, 25, 0, .null, []) := rfl
set_option maxRecDepth 100000 in
theorem i85_18 : INS 85 18 = some (0, 1, 0, 2, .null, []) := rfl
set_option maxRecDepth 100000 in
theorem i85_19 : INS 85 19 = some (0, 2, 6, 0, .null, []) := rfl
set_option maxRecDepth 100000 in
theorem i85_21 : INS 85 21 = some (24, 3, 109, 0, .null, []) := rfl
set_option maxRecDepth 100000 in
theorem i85_24 : INS 85 24 = some (27, 1, 0, 0, .null, []) := rfl
set_option maxRecDepth 100000 in
theorem i85_25 : INS 85 25 = some (0, 1, 0, 2, .null, []) := rfl
set_option maxRecDepth 100000 in
theorem i85_26 : INS 85 26 = some (16, 3, 10, 2, .null, []) := rfl
set_option maxRecDepth 100000 in
theorem i85_29 : INS 85 29 = some (0, 1, 1, 0, .null, []) := rfl
set_option maxRecDepth 100000 in
theorem i85_30 : INS 85 30 = some (0, 1, 2, 0, .null, []) := rfl
set_option maxRecDepth 100000 in
theorem i85_31 : INS 85 31 = some (0, 1, 3, 0, .null, []) := rfl
set_option maxRecDepth 100000 in
theorem i85_32 : INS 85 32 = some (0, 2, 4, 0, .null, []) := rfl
set_option maxRecDepth 100000 in
theorem i85_34 : INS 85 34 = some (0, 2, 5, 0, .null, []) := rfl
set_option maxRecDepth 100000 in
theorem i85_36 : INS 85 36 = some (24, 3, 14, 0, .null, []) := rfl
set_option maxRecDepth 100000 in
theorem i85_39 : INS 85 39 = some (2, 1, 0, 0, .int 1, []) := rfl
set_option maxRecDepth 100000 in
theorem i85_40 : INS 85 40 = some (27, 1, 0, 0, .null, []) := rfl
set_option maxRecDepth 100000 in
theorem i86_0 : INS 86 0 = some (0, 1, 0, 2, .null, []) := rfl
set_option maxRecDepth 100000 in
theorem i86_1 : INS 86 1 = some (0, 1, 1, 0, .null, []) := rfl
set_option maxRecDepth 100000 in
theorem i86_2 : INS 86 2 = some (24, 3, 110, 0, .null, []) := rfl
set_option maxRecDepth 100000 in
theorem i86_5 : INS 86 5 = some (1, 1, 2, 0, .null, []) := rfl
set_option maxRecDepth 100000 in
theorem i86_6 : INS 86 6 = some (0, 1, 2, 0, .null, []) := rfl
set_option maxRecDepth 100000 in
theorem i86_7 : INS 86 7 = some (9, 3, 16, 0, .null, []) := rfl
set_option maxRecDepth 100000 in
theorem i86_10 : INS 86 10 = some (0, 1, 0, 2, .null, []) := rfl
set_option maxRecDepth 100000 in
theorem i86_11 : INS 86 11 = some (0, 1, 2, 0, .null, []) := rfl
set_option maxRecDepth 100000 in
theorem i86_12 : INS 86 12 = some (24, 3, 109, 0, .null, []) := rfl
set_option maxRecDepth 100000 in
theorem i86_15 : INS 86 15 = some (27, 1, 0, 0, .null, []) := rfl
set_option maxRecDepth 100000 in
theorem i86_16 : INS 86 16 = some (0, 1, 0, 2, .null, []) := rfl
set_option maxRecDepth 100000 in
theorem i86_17 : INS 86 17 = some (16, 3, 10, 3, .null, []) := rfl
set_option maxRecDepth 100000 in
theorem i86_20 : INS 86 20 = some (0, 1, 1, 0, .null, []) := rfl
set_option maxRecDepth 100000 in
theorem i86_21 : INS 86 21 = some (18, 1, 23, 0, .null, []) := rfl
set_option maxRecDepth 100000 in
theorem i86_22 : INS 86 22 = some (16, 3, 9, 0, .null, []) := rfl
set_option maxRecDepth 100000 in
theorem i86_25 : INS 86 25 = some (1, 1, 3, 2, .null, []) := rfl
set_option maxRecDepth 100000 in
theorem i86_26 : INS 86 26 = some (0, 1, 3, 2, .null, []) := rfl
set_option maxRecDepth 100000 in
theorem i86_27 : INS 86 27 = some (16, 3, 8, 2, .null, []) := rfl
set_option maxRecDepth 100000 in
theorem i86_30 : INS 86 30 = some (2, 1, 0, 0, .int 5, []) := rfl
set_option maxRecDepth 100000 in
theorem i86_31 : INS 86 31 = some (3, 1, 4, 0, .null, []) := rfl
set_option maxRecDepth 100000 in
theorem i86_32 : INS 86 32 = some (9, 3, 42, 0, .null, []) := rfl
set_option maxRecDepth 100000 in
theorem i86_35 : INS 86 35 = some (0, 1, 0, 2, .null, []) := rfl
set_option maxRecDepth 100000 in
theorem i86_36 : INS 86 36 = some (2, 2, 0, 0, .int (-6), []) := rfl
set_option maxRecDepth 100000 in
theorem i86_38 : INS 86 38 = some (24, 3, 109, 0, .null, []) := rfl
set_option maxRecDepth 100000 in
theorem i86_41 : INS 86 41 = some (27, 1, 0, 0, .null, []) := rfl
set_option maxRecDepth 100000 in
theorem i86_42 : INS 86 42 = some (0, 1, 3, 2, .null, []) := rfl
set_option maxRecDepth 100000 in
theorem i86_43 : INS 86 43 = some (16, 3, 8, 2, .null, []) := rfl
set_option maxRecDepth 100000 in
theorem i86_46 : INS 86 46 = some (2, 1, 0, 0, .int 5, []) := rfl
set_option maxRecDepth 100000 in
theorem i86_47 : INS 86 47 = some (3, 1, 3, 0, .null, []) := rfl
set_option maxRecDepth 100000 in
theorem i86_48 : INS 86 48 = some (1, 2, 4, 0, .null, []) := rfl
set_option maxRecDepth 100000 in
theorem i86_50 : INS 86 50 = some (2, 1, 0, 0, .int 0, []) := rfl
set_option maxRecDepth 100000 in
theorem i86_51 : INS 86 51 = some (1, 2, 5, 0, .null, []) := rfl
set_option maxRecDepth 100000 in
theorem i86_53 : INS 86 53 = some (0, 2, 5, 0, .null, []) := rfl
set_option maxRecDepth 100000 in
theorem i86_55 : INS 86 55 = some (0, 2, 4, 0, .null, []) := rfl
set_option maxRecDepth 100000 in
theorem i86_57 : INS 86 57 = some (10, 3, 83, 3, .null, []) := rfl
set_option maxRecDepth 100000 in
theorem i86_60 : INS 86 60 = some (0, 1, 0, 2, .null, []) := rfl
set_option maxRecDepth 100000 in
theorem i86_61 : INS 86 61 = some (0, 1, 3, 2, .null, []) := rfl
set_option maxRecDepth 100000 in
theorem i86_62 : INS 86 62 = some (0, 2, 5, 0, .null, []) := rfl
set_option maxRecDepth 100000 in
theorem i86_64 : INS 86 64 = some (24, 3, 113, 0, .null, []) := rfl
set_option maxRecDepth 100000 in
theorem i86_67 : INS 86 67 = some (9, 3, 77, 1, .null, []) := rfl
set_option maxRecDepth 100000 in
theorem i86_70 : INS 86 70 = some (0, 1, 0, 2, .null, []) := rfl
set_option maxRecDepth 100000 in
theorem i86_71 : INS 86 71 = some (2, 2, 0, 0, .int (-6), []) := rfl
set_option maxRecDepth 100000 in
theorem i86_73 : INS 86 73 = some (24, 3, 109, 0, .null, []) := rfl
set_option maxRecDepth 100000 in
theorem i86_76 : INS 86 76 = some (27, 1, 0, 0, .null, []) := rfl
set_option maxRecDepth 100000 in
theorem i86_77 : INS 86 77 = some (15, 3, 5, 0, .int 1, []) := rfl
set_option maxRecDepth 100000 in
theorem i86_80 : INS 86 80 = some (12, 3, 53, 0, .null, []) := rfl
set_option maxRecDepth 100000 in
theorem i86_83 : INS 86 83 = some (2, 1, 0, 0, .int 0, []) := rfl
set_option maxRecDepth 100000 in
theorem i86_84 : INS 86 84 = some (1, 2, 5, 0, .null, []) := rfl
set_option maxRecDepth 100000 in
theorem i86_86 : INS 86 86 = some (0, 2, 5, 0, .null, []) := rfl
set_option maxRecDepth 100000 in
theorem i86_88 : INS 86 88 = some (0, 2, 4, 0, .null, []) := rfl
set_option maxRecDepth 100000 in
theorem i86_90 : INS 86 90 = some (10, 3, 150, 3, .null, []) := rfl
set_option maxRecDepth 100000 in
theorem i86_93 : INS 86 93 = some (2, 1, 0, 0, .int 5, []) := rfl
set_option maxRecDepth 100000 in
theorem i86_94 : INS 86 94 = some (0, 2, 5, 0, .null, []) := rfl
set_option maxRecDepth 100000 in
theorem i86_96 : INS 86 96 = some (3, 1, 2, 0, .null, []) := rfl
set_option maxRecDepth 100000 in
theorem i86_97 : INS 86 97 = some (1, 2, 6, 0, .null, []) := rfl
set_option maxRecDepth 100000 in
theorem i86_99 : INS 86 99 = some (0, 1, 0, 2, .null, []) := rfl
set_option maxRecDepth 100000 in
theorem i86_100 : INS 86 100 = some (16, 3, 10, 2, .null, []) := rfl
set_option maxRecDepth 100000 in
theorem i86_103 : INS 86 103 = some (0, 1, 3, 2, .null, []) := rfl
set_option maxRecDepth 100000 in
theorem i86_104 : INS 86 104 = some (0, 2, 6, 0, .null, []) := rfl
set_option maxRecDepth 100000 in
theorem i86_106 : INS 86 106 = some (24, 3, 80, 0, .null, []) := rfl
set_option maxRecDepth 100000 in
theorem i86_109 : INS 86 109 = some (0, 1, 3, 2, .null, []) := rfl
set_option maxRecDepth 100000 in
theorem i86_110 : INS 86 110 = some (0, 2, 6, 0, .null, []) := rfl
set_option maxRecDepth 100000 in
theorem i86_112 : INS 86 112 = some (2, 1, 0, 0, .int 1, []) := rfl
set_option maxRecDepth 100000 in
theorem i86_113 : INS 86 113 = some (3, 1, 0, 0, .null, []) := rfl
set_option maxRecDepth 100000 in
theorem i86_114 : INS 86 114 = some (24, 3, 80, 0, .null, []) := rfl
set_option maxRecDepth 100000 in
theorem i86_117 : INS 86 117 = some (0, 1, 3, 2, .null, []) := rfl
set_option maxRecDepth 100000 in
theorem i86_118 : INS 86 118 = some (0, 2, 6, 0, .null, []) := rfl
set_option maxRecDepth 100000 in
theorem i86_120 : INS 86 120 = some (2, 1, 0, 0, .int 2, []) := rfl
set_option maxRecDepth 100000 in
theorem i86_121 : INS 86 121 = some (3, 1, 0, 0, .null, []) := rfl
set_option maxRecDepth 100000 in
theorem i86_122 : INS 86 122 = some (24, 3, 80, 0, .null, []) := rfl
set_option maxRecDepth 100000 in
theorem i86_125 : INS 86 125 = some (0, 1, 3, 2, .null, []) := rfl
set_option maxRecDepth 100000 in
theorem i86_126 : INS 86 126 = some (0, 2, 6, 0, .null, []) := rfl
set_option maxRecDepth 100000 in
theorem i86_128 : INS 86 128 = some (2, 1, 0, 0, .int 3, []) := rfl
set_option maxRecDepth 100000 in
theorem i86_129 : INS 86 129 = some (3, 1, 0, 0, .null, []) := rfl
set_option maxRecDepth 100000 in
theorem i86_130 : INS 86 130 = some (24, 3, 80, 0, .null, []) := rfl
set_option maxRecDepth 100000 in
theorem i86_133 : INS 86 133 = some (0, 1, 3, 2, .null, []) := rfl
set_option maxRecDepth 100000 in
theorem i86_134 : INS 86 134 = some (0, 2, 6, 0, .null, []) := rfl
set_option maxRecDepth 100000 in
theorem i86_136 : INS 86 136 = some (2, 1, 0, 0, .int 4, []) := rfl
set_option maxRecDepth 100000 in
theorem i86_137 : INS 86 137 = some (3, 1, 0, 0, .null, []) := rfl
set_option maxRecDepth 100000 in
theorem i86_138 : INS 86 138 = some (24, 3, 80, 0, .null, []) := rfl
set_option maxRecDepth 100000 in
theorem i86_141 : INS 86 141 = some (24, 3, 14, 0, .null, []) := rfl
set_option maxRecDepth 100000 in
theorem i86_144 : INS 86 144 = some (15, 3, 5, 0, .int 1, []) := rfl
set_option maxRecDepth 100000 in
theorem i86_147 : INS 86 147 = some (12, 3, 86, 0, .null, []) := rfl
set_option maxRecDepth 100000 in
theorem i86_150 : INS 86 150 = some (0, 2, 4, 0, .null, []) := rfl
set_option maxRecDepth 100000 in
theorem i86_152 : INS 86 152 = some (27, 1, 0, 0, .null, []) := rfl
set_option maxRecDepth 100000 in
theorem i87_0 : INS 87 0 = some (0, 1, 1, 0, .null, []) := rfl
set_option maxRecDepth 100000 in
theorem i87_1 : INS 87 1 = some (24, 3, 115, 2, .null, []) := rfl
set_option maxRecDepth 100000 in
theorem i87_4 : INS 87 4 = some (9, 3, 13, 1, .null, []) := rfl
set_option maxRecDepth 100000 in
theorem i87_7 : INS 87 7 = some (0, 1, 0, 2, .null, []) := rfl
set_option maxRecDepth 100000 in
theorem i87_8 : INS 87 8 = some (2, 1, 0, 0, .int (-1), []) := rfl
set_option maxRecDepth 100000 in
theorem i87_9 : INS 87 9 = some (24, 3, 109, 0, .null, []) := rfl
set_option maxRecDepth 100000 in
theorem i87_12 : INS 87 12 = some (27, 1, 0, 0, .null, []) := rfl
set_option maxRecDepth 100000 in
theorem i87_13 : INS 87 13 = some (0, 1, 0, 2, .null, []) := rfl
set_option maxRecDepth 100000 in
theorem i87_14 : INS 87 14 = some (16, 3, 10, 2, .null, []) := rfl
set_option maxRecDepth 100000 in
theorem i87_17 : INS 87 17 = some (16, 3, 2, 1, .null, []) := rfl
set_option maxRecDepth 100000 in
theorem i87_20 : INS 87 20 = some (0, 1, 1, 0, .null, []) := rfl
set_option maxRecDepth 100000 in
theorem i87_21 : INS 87 21 = some (18, 1, 23, 0, .null, []) := rfl
set_option maxRecDepth 100000 in
theorem i87_22 : INS 87 22 = some (16, 3, 3, 0, .null, []) := rfl
set_option maxRecDepth 100000 in
theorem i87_25 : INS 87 25 = some (1, 1, 2, 0, .null, []) := rfl
set_option maxRecDepth 100000 in
theorem i87_26 : INS 87 26 = some (0, 1, 0, 2, .null, []) := rfl
set_option maxRecDepth 100000 in
theorem i87_27 : INS 87 27 = some (16, 3, 10, 2, .null, []) := rfl
set_option maxRecDepth 100000 in
theorem i87_30 : INS 87 30 = some (16, 3, 2, 1, .null, []) := rfl
set_option maxRecDepth 100000 in
theorem i87_33 : INS 87 33 = some (0, 1, 1, 0, .null, []) := rfl
set_option maxRecDepth 100000 in
theorem i87_34 : INS 87 34 = some (18, 1, 23, 0, .null, []) := rfl
set_option maxRecDepth 100000 in
theorem i87_35 : INS 87 35 = some (2, 1, 0, 0, .int 0, []) := rfl
set_option maxRecDepth 100000 in
theorem i87_36 : INS 87 36 = some (2, 1, 0, 0, .int 0, []) := rfl
set_option maxRecDepth 100000 in
theorem i87_37 : INS 87 37 = some (2, 1, 0, 0, .int 0, []) := rfl
set_option maxRecDepth 100000 in
theorem i87_38 : INS 87 38 = some (2, 1, 0, 0, .int 0, []) := rfl
set_option maxRecDepth 100000 in
theorem i87_39 : INS 87 39 = some (2, 1, 0, 0, .null, []) := rfl
set_option maxRecDepth 100000 in
theorem i87_40 : INS 87 40 = some (24, 3, 26, 0, .null, []) := rfl
set_option maxRecDepth 100000 in
theorem i87_43 : INS 87 43 = some (0, 1, 2, 0, .null, []) := rfl
set_option maxRecDepth 100000 in
theorem i87_44 : INS 87 44 = some (27, 1, 0, 0, .null, []) := rfl
set_option maxRecDepth 100000 in
theorem i88_0 : INS 88 0 = some (0, 1, 1, 0, .null, []) := rfl
set_option maxRecDepth 100000 in
theorem i88_1 : INS 88 1 = some (24, 3, 116, 2, .null, []) := rfl
set_option maxRecDepth 100000 in
theorem i88_4 : INS 88 4 = some (9, 3, 13, 1, .null, []) := rfl
set_option maxRecDepth 100000 in
theorem i88_7 : INS 88 7 = some (0, 1, 0, 2, .null, []) := rfl
set_option maxRecDepth 100000 in
theorem i88_8 : INS 88 8 = some (2, 1, 0, 0, .int (-1), []) := rfl
set_option maxRecDepth 100000 in
theorem i88_9 : INS 88 9 = some (24, 3, 109, 0, .null, []) := rfl
set_option maxRecDepth 100000 in
theorem i88_12 : INS 88 12 = some (27, 1, 0, 0, .null, []) := rfl
set_option maxRecDepth 100000 in
theorem i88_13 : INS 88 13 = some (0, 1, 3, 0, .null, []) := rfl
set_option maxRecDepth 100000 in
theorem i88_14 : INS 88 14 = some (9, 3, 24, 3, .null, []) := rfl
set_option maxRecDepth 100000 in
theorem i88_17 : INS 88 17 = some (0, 1, 0, 2, .null, []) := rfl
set_option maxRecDepth 100000 in
theorem i88_18 : INS 88 18 = some (2, 2, 0, 0, .int (-4), []) := rfl
set_option maxRecDepth 100000 in
theorem i88_20 : INS 88 20 = some (24, 3, 109, 0, .null, []) := rfl
set_option maxRecDepth 100000 in
theorem i88_23 : INS 88 23 = some (27, 1, 0, 0, .null, []) := rfl
set_option maxRecDepth 100000 in
theorem i88_24 : INS 88 24 = some (0, 1, 2, 0, .null, []) := rfl
set_option maxRecDepth 100000 in
theorem i88_25 : INS 88 25 = some (2, 1, 0, 0, .int 0, []) := rfl
set_option maxRecDepth 100000 in
theorem i88_26 : INS 88 26 = some (2, 1, 0, 0, .int 3, []) := rfl
set_option maxRecDepth 100000 in
theorem i88_27 : INS 88 27 = some (24, 3, 114, 2, .null, []) := rfl
set_option maxRecDepth 100000 in
theorem i88_30 : INS 88 30 = some (9, 3, 40, 1, .null, []) := rfl
set_option maxRecDepth 100000 in
theorem i88_33 : INS 88 33 = some (0, 1, 0, 2, .null, []) := rfl
set_option maxRecDepth 100000 in
theorem i88_34 : INS 88 34 = some (2, 2, 0, 0, .int (-6), []) := rfl
set_option maxRecDepth 100000 in
theorem i88_36 : INS 88 36 = some (24, 3, 109, 0, .null, []) := rfl
set_option maxRecDepth 100000 in
theorem i88_39 : INS 88 39 = some (27, 1, 0, 0, .null, []) := rfl
set_option maxRecDepth 100000 in
theorem i88_40 : INS 88 40 = some (0, 1, 3, 0, .null, []) := rfl
set_option maxRecDepth 100000 in
theorem i88_41 : INS 88 41 = some (2, 2, 0, 0, .int 100, []) := rfl
set_option maxRecDepth 100000 in
theorem i88_43 : INS 88 43 = some (10, 3, 53, 5, .null, []) := rfl
set_option maxRecDepth 100000 in
theorem i88_46 : INS 88 46 = some (0, 1, 0, 2, .null, []) := rfl
set_option maxRecDepth 100000 in
theorem i88_47 : INS 88 47 = some (2, 2, 0, 0, .int (-7), []) := rfl
set_option maxRecDepth 100000 in
theorem i88_49 : INS 88 49 = some (24, 3, 109, 0, .null, []) := rfl
set_option maxRecDepth 100000 in
theorem i88_52 : INS 88 52 = some (27, 1, 0, 0, .null, []) := rfl
set_option maxRecDepth 100000 in
theorem i88_53 : INS 88 53 = some (0, 1, 0, 2, .null, []) := rfl
set_option maxRecDepth 100000 in
theorem i88_54 : INS 88 54 = some (16, 3, 10, 3, .null, []) := rfl
set_option maxRecDepth 100000 in
theorem i88_57 : INS 88 57 = some (0, 1, 1, 0, .null, []) := rfl
set_option maxRecDepth 100000 in
theorem i88_58 : INS 88 58 = some (18, 1, 23, 0, .null, []) := rfl
set_option maxRecDepth 100000 in
theorem i88_59 : INS 88 59 = some (0, 1, 2, 0, .null, []) := rfl
set_option maxRecDepth 100000 in
theorem i88_60 : INS 88 60 = some (0, 1, 3, 0, .null, []) := rfl
set_option maxRecDepth 100000 in
theorem i88_61 : INS 88 61 = some (24, 3, 82, 0, .null, []) := rfl
set_option maxRecDepth 100000 in
theorem i88_64 : INS 88 64 = some (2, 1, 0, 0, .int 1, []) := rfl
set_option maxRecDepth 100000 in
theorem i88_65 : INS 88 65 = some (27, 1, 0, 0, .null, []) := rfl
set_option maxRecDepth 100000 in
theorem i89_0 : INS 89 0 = some (0, 1, 0, 2, .null, []) := rfl
set_option maxRecDepth 100000 in
theorem i89_1 : INS 89 1 = some (0, 1, 1, 0, .null, []) := rfl
set_option maxRecDepth 100000 in
theorem i89_2 : INS 89 2 = some (24, 3, 110, 0, .null, []) := rfl
set_option maxRecDepth 100000 in
theorem i89_5 : INS 89 5 = some (1, 2, 5, 0, .null, []) := rfl
set_option maxRecDepth 100000 in
theorem i89_7 : INS 89 7 = some (0, 2, 5, 0, .null, []) := rfl
set_option maxRecDepth 100000 in
theorem i89_9 : INS 89 9 = some (9, 3, 19, 0, .null, []) := rfl
set_option maxRecDepth 100000 in
theorem i89_12 : INS 89 12 = some (0, 1, 0, 2, .null, []) := rfl
set_option maxRecDepth 100000 in
theorem i89_13 : INS 89 13 = some (0, 2, 5, 0, .null, []) := rfl
set_option maxRecDepth 100000 in
theorem i89_15 : INS 89 15 = some (24, 3, 109, 0, .null, []) := rfl
set_option maxRecDepth 100000 in
theorem i89_18 : INS 89 18 = some (27, 1, 0, 0, .null, []) := rfl
set_option maxRecDepth 100000 in
theorem i89_19 : INS 89 19 = some (0, 1, 0, 2, .null, []) := rfl
set_option maxRecDepth 100000 in
theorem i89_20 : INS 89 20 = some (16, 3, 10, 3, .null, []) := rfl
set_option maxRecDepth 100000 in
theorem i89_23 : INS 89 23 = some (0, 1, 1, 0, .null, []) := rfl
set_option maxRecDepth 100000 in
theorem i89_24 : INS 89 24 = some (18, 1, 23, 0, .null, []) := rfl
set_option maxRecDepth 100000 in
theorem i89_25 : INS 89 25 = some (16, 3, 9, 0, .null, []) := rfl
set_option maxRecDepth 100000 in
theorem i89_28 : INS 89 28 = some (1, 2, 6, 2, .null, []) := rfl
set_option maxRecDepth 100000 in
theorem i89_30 : INS 89 30 = some (0, 2, 6, 2, .null, []) := rfl
set_option maxRecDepth 100000 in
theorem i89_32 : INS 89 32 = some (0, 1, 2, 0, .null, []) := rfl
set_option maxRecDepth 100000 in
theorem i89_33 : INS 89 33 = some (2, 1, 0, 0, .int 1, []) := rfl
set_option maxRecDepth 100000 in
theorem i89_34 : INS 89 34 = some (24, 3, 78, 0, .null, []) := rfl
set_option maxRecDepth 100000 in
theorem i89_37 : INS 89 37 = some (9, 3, 47, 1, .null, []) := rfl
set_option maxRecDepth 100000 in
theorem i89_40 : INS 89 40 = some (0, 1, 0, 2, .null, []) := rfl
set_option maxRecDepth 100000 in
theorem i89_41 : INS 89 41 = some (2, 2, 0, 0, .int (-5), []) := rfl
set_option maxRecDepth 100000 in
theorem i89_43 : INS 89 43 = some (24, 3, 109, 0, .null, []) := rfl
set_option maxRecDepth 100000 in
theorem i89_46 : INS 89 46 = some (27, 1, 0, 0, .null, []) := rfl
set_option maxRecDepth 100000 in
theorem i89_47 : INS 89 47 = some (0, 2, 6, 2, .null, []) := rfl
set_option maxRecDepth 100000 in
theorem i89_49 : INS 89 49 = some (0, 1, 2, 0, .null, []) := rfl
set_option maxRecDepth 100000 in
theorem i89_50 : INS 89 50 = some (0, 1, 3, 1, .null, []) := rfl
set_option maxRecDepth 100000 in
theorem i89_51 : INS 89 51 = some (24, 3, 79, 0, .null, []) := rfl
set_option maxRecDepth 100000 in
theorem i89_54 : INS 89 54 = some (2, 1, 0, 0, .int 1, []) := rfl
set_option maxRecDepth 100000 in
theorem i89_55 : INS 89 55 = some (27, 1, 0, 0, .null, []) := rfl
set_option maxRecDepth 100000 in
theorem i90_0 : INS 90 0 = some (0, 1, 1, 0, .null, []) := rfl
set_option maxRecDepth 100000 in
theorem i90_1 : INS 90 1 = some (24, 3, 116, 2, .null, []) := rfl
set_option maxRecDepth 100000 in
theorem i90_4 : INS 90 4 = some (9, 3, 14, 0, .null, []) := rfl
set_option maxRecDepth 100000 in
theorem i90_7 : INS 90 7 = some (0, 1, 2, 0, .null, []) := rfl
set_option maxRecDepth 100000 in
theorem i90_8 : INS 90 8 = some (24, 3, 116, 2, .null, []) := rfl
set_option maxRecDepth 100000 in
theorem i90_11 : INS 90 11 = some (9, 3, 20, 1, .null, []) := rfl
set_option maxRecDepth 100000 in
theorem i90_14 : INS 90 14 = some (0, 1, 0, 2, .null, []) := rfl
set_option maxRecDepth 100000 in
theorem i90_15 : INS 90 15 = some (2, 1, 0, 0, .int (-1), []) := rfl
set_option maxRecDepth 100000 in
theorem i90_16 : INS 90 16 = some (24, 3, 109, 0, .null, []) := rfl
set_option maxRecDepth 100000 in
theorem i90_19 : INS 90 19 = some (27, 1, 0, 0, .null, []) := rfl
set_option maxRecDepth 100000 in
theorem i90_20 : INS 90 20 = some (0, 1, 0, 2, .null, []) := rfl
set_option maxRecDepth 100000 in
theorem i90_21 : INS 90 21 = some (16, 3, 10, 3, .null, []) := rfl
set_option maxRecDepth 100000 in
theorem i90_24 : INS 90 24 = some (0, 1, 1, 0, .null, []) := rfl
set_option maxRecDepth 100000 in
theorem i90_25 : INS 90 25 = some (18, 1, 23, 0, .null, []) := rfl
set_option maxRecDepth 100000 in
theorem i90_26 : INS 90 26 = some (1, 2, 6, 2, .null, []) := rfl
set_option maxRecDepth 100000 in
theorem i90_28 : INS 90 28 = some (0, 1, 0, 2, .null, []) := rfl
set_option maxRecDepth 100000 in
theorem i90_29 : INS 90 29 = some (16, 3, 10, 3, .null, []) := rfl
set_option maxRecDepth 100000 in
theorem i90_32 : INS 90 32 = some (0, 1, 2, 0, .null, []) := rfl
set_option maxRecDepth 100000 in
theorem i90_33 : INS 90 33 = some (18, 1, 23, 0, .null, []) := rfl
set_option maxRecDepth 100000 in
theorem i90_34 : INS 90 34 = some (1, 2, 7, 2, .null, []) := rfl
set_option maxRecDepth 100000 in
theorem i90_36 : INS 90 36 = some (0, 2, 6, 2, .null, []) := rfl
set_option maxRecDepth 100000 in
theorem i90_38 : INS 90 38 = some (16, 3, 9, 2, .null, []) := rfl
set_option maxRecDepth 100000 in
theorem i90_41 : INS 90 41 = some (2, 1, 0, 0, .int 2, []) := rfl
set_option maxRecDepth 100000 in
theorem i90_42 : INS 90 42 = some (10, 3, 54, 0, .null, []) := rfl
set_option maxRecDepth 100000 in
theorem i90_45 : INS 90 45 = some (0, 2, 7, 2, .null, []) := rfl
set_option maxRecDepth 100000 in
theorem i90_47 : INS 90 47 = some (16, 3, 9, 2, .null, []) := rfl
set_option maxRecDepth 100000 in
theorem i90_50 : INS 90 50 = some (2, 1, 0, 0, .int 2, []) := rfl
set_option maxRecDepth 100000 in
theorem i90_51 : INS 90 51 = some (10, 3, 61, 1, .null, []) := rfl
set_option maxRecDepth 100000 in
theorem i90_54 : INS 90 54 = some (0, 1, 0, 2, .null, []) := rfl
set_option maxRecDepth 100000 in
theorem i90_55 : INS 90 55 = some (2, 2, 0, 0, .int (-2), []) := rfl
set_option maxRecDepth 100000 in
theorem i90_57 : INS 90 57 = some (24, 3, 109, 0, .null, []) := rfl
set_option maxRecDepth 100000 in
theorem i90_60 : INS 90 60 = some (27, 1, 0, 0, .null, []) := rfl
set_option maxRecDepth 100000 in
theorem i90_61 : INS 90 61 = some (0, 2, 6, 2, .null, []) := rfl
set_option maxRecDepth 100000 in
theorem i90_63 : INS 90 63 = some (16, 3, 9, 2, .null, []) := rfl
set_option maxRecDepth 100000 in
theorem i90_66 : INS 90 66 = some (2, 1, 0, 0, .int 1, []) := rfl
set_option maxRecDepth 100000 in
theorem i90_67 : INS 90 67 = some (10, 3, 83, 1, .null, []) := rfl
set_option maxRecDepth 100000 in
theorem i90_70 : INS 90 70 = some (0, 2, 7, 2, .null, []) := rfl
set_option maxRecDepth 100000 in
theorem i90_72 : INS 90 72 = some (16, 3, 9, 2, .null, []) := rfl
set_option maxRecDepth 100000 in
theorem i90_75 : INS 90 75 = some (2, 1, 0, 0, .int 1, []) := rfl
set_option maxRecDepth 100000 in
theorem i90_76 : INS 90 76 = some (10, 3, 83, 1, .null, []) := rfl
set_option maxRecDepth 100000 in
theorem i90_79 : INS 90 79 = some (2, 1, 0, 0, .int 1, []) := rfl
set_option maxRecDepth 100000 in
theorem i90_80 : INS 90 80 = some (12, 3, 84, 0, .null, []) := rfl
set_option maxRecDepth 100000 in
theorem i90_83 : INS 90 83 = some (2, 1, 0, 0, .int 0, []) := rfl
set_option maxRecDepth 100000 in
theorem i90_84 : INS 90 84 = some (1, 2, 8, 0, .null, []) := rfl
set_option maxRecDepth 100000 in
theorem i90_86 : INS 90 86 = some (0, 2, 8, 0, .null, []) := rfl
set_option maxRecDepth 100000 in
theorem i90_88 : INS 90 88 = some (9, 3, 117, 0, .null, []) := rfl
set_option maxRecDepth 100000 in
theorem i90_91 : INS 90 91 = some (0, 2, 6, 2, .null, []) := rfl
set_option maxRecDepth 100000 in
theorem i90_93 : INS 90 93 = some (16, 3, 9, 0, .null, []) := rfl
set_option maxRecDepth 100000 in
theorem i90_96 : INS 90 96 = some (16, 3, 8, 1, .null, []) := rfl
set_option maxRecDepth 100000 in
theorem i90_99 : INS 90 99 = some (0, 2, 7, 2, .null, []) := rfl
set_option maxRecDepth 100000 in
theorem i90_101 : INS 90 101 = some (16, 3, 9, 0, .null, []) := rfl
set_option maxRecDepth 100000 in
theorem i90_104 : INS 90 104 = some (16, 3, 8, 1, .null, []) := rfl
set_option maxRecDepth 100000 in
theorem i90_107 : INS 90 107 = some (10, 3, 117, 0, .null, []) := rfl
set_option maxRecDepth 100000 in
theorem i90_110 : INS 90 110 = some (0, 1, 0, 2, .null, []) := rfl
set_option maxRecDepth 100000 in
theorem i90_111 : INS 90 111 = some (2, 2, 0, 0, .int (-2), []) := rfl
set_option maxRecDepth 100000 in
theorem i90_113 : INS 90 113 = some (24, 3, 109, 0, .null, []) := rfl
set_option maxRecDepth 100000 in
theorem i90_116 : INS 90 116 = some (27, 1, 0, 0, .null, []) := rfl
set_option maxRecDepth 100000 in
theorem i90_117 : INS 90 117 = some (0, 2, 8, 0, .null, []) := rfl
set_option maxRecDepth 100000 in
theorem i90_119 : INS 90 119 = some (9, 3, 129, 1, .null, []) := rfl
set_option maxRecDepth 100000 in
theorem i90_122 : INS 90 122 = some (0, 1, 0, 2, .null, []) := rfl
set_option maxRecDepth 100000 in
theorem i90_123 : INS 90 123 = some (2, 2, 0, 0, .int (-3), []) := rfl
set_option maxRecDepth 100000 in
theorem i90_125 : INS 90 125 = some (24, 3, 109, 0, .null, []) := rfl
set_option maxRecDepth 100000 in
theorem i90_128 : INS 90 128 = some (27, 1, 0, 0, .null, []) := rfl
set_option maxRecDepth 100000 in
theorem i90_129 : INS 90 129 = some (0, 2, 5, 0, .null, []) := rfl
set_option maxRecDepth 100000 in
theorem i90_131 : INS 90 131 = some (9, 3, 141, 3, .null, []) := rfl
set_option maxRecDepth 100000 in
theorem i90_134 : INS 90 134 = some (0, 1, 0, 2, .null, []) := rfl
set_option maxRecDepth 100000 in
theorem i90_135 : INS 90 135 = some (2, 2, 0, 0, .int (-4), []) := rfl
set_option maxRecDepth 100000 in
theorem i90_137 : INS 90 137 = some (24, 3, 109, 0, .null, []) := rfl
set_option maxRecDepth 100000 in
theorem i90_140 : INS 90 140 = some (27, 1, 0, 0, .null, []) := rfl
set_option maxRecDepth 100000 in
theorem i90_141 : INS 90 141 = some (0, 2, 6, 2, .null, []) := rfl
set_option maxRecDepth 100000 in
theorem i90_143 : INS 90 143 = some (16, 3, 9, 0, .null, []) := rfl
set_option maxRecDepth 100000 in
theorem i90_146 : INS 90 146 = some (0, 1, 3, 0, .null, []) := rfl
set_option maxRecDepth 100000 in
theorem i90_147 : INS 90 147 = some (0, 2, 5, 0, .null, []) := rfl
set_option maxRecDepth 100000 in
theorem i90_149 : INS 90 149 = some (24, 3, 78, 0, .null, []) := rfl
set_option maxRecDepth 100000 in
theorem i90_152 : INS 90 152 = some (9, 3, 170, 0, .null, []) := rfl
set_option maxRecDepth 100000 in
theorem i90_155 : INS 90 155 = some (0, 2, 7, 2, .null, []) := rfl
set_option maxRecDepth 100000 in
theorem i90_157 : INS 90 157 = some (16, 3, 9, 0, .null, []) := rfl
set_option maxRecDepth 100000 in
theorem i90_160 : INS 90 160 = some (0, 2, 4, 0, .null, []) := rfl
set_option maxRecDepth 100000 in
theorem i90_162 : INS 90 162 = some (0, 2, 5, 0, .null, []) := rfl
set_option maxRecDepth 100000 in
theorem i90_164 : INS 90 164 = some (24, 3, 78, 0, .null, []) := rfl
set_option maxRecDepth 100000 in
theorem i90_167 : INS 90 167 = some (9, 3, 177, 1, .null, []) := rfl
set_option maxRecDepth 100000 in
theorem i90_170 : INS 90 170 = some (0, 1, 0, 2, .null, []) := rfl
set_option maxRecDepth 100000 in
theorem i90_171 : INS 90 171 = some (2, 2, 0, 0, .int (-5), []) := rfl
set_option maxRecDepth 100000 in
theorem i90_173 : INS 90 173 = some (24, 3, 109, 0, .null, []) := rfl
set_option maxRecDepth 100000 in
theorem i90_176 : INS 90 176 = some (27, 1, 0, 0, .null, []) := rfl
set_option maxRecDepth 100000 in
theorem i90_177 : INS 90 177 = some (0, 2, 6, 2, .null, []) := rfl
set_option maxRecDepth 100000 in
theorem i90_179 : INS 90 179 = some (16, 3, 9, 0, .null, []) := rfl
set_option maxRecDepth 100000 in
theorem i90_182 : INS 90 182 = some (16, 3, 8, 0, .null, []) := rfl
set_option maxRecDepth 100000 in
theorem i90_185 : INS 90 185 = some (0, 1, 3, 0, .null, []) := rfl
set_option maxRecDepth 100000 in
theorem i90_186 : INS 90 186 = some (0, 2, 7, 2, .null, []) := rfl
set_option maxRecDepth 100000 in
theorem i90_188 : INS 90 188 = some (16, 3, 9, 0, .null, []) := rfl
set_option maxRecDepth 100000 in
theorem i90_191 : INS 90 191 = some (16, 3, 8, 0, .null, []) := rfl
set_option maxRecDepth 100000 in
theorem i90_194 : INS 90 194 = some (0, 2, 4, 0, .null, []) := rfl
set_option maxRecDepth 100000 in
theorem i90_196 : INS 90 196 = some (0, 2, 5, 0, .null, []) := rfl
set_option maxRecDepth 100000 in
theorem i90_198 : INS 90 198 = some (26, 3, 0, 0, .null, []) := rfl
set_option maxRecDepth 100000 in
theorem i90_201 : INS 90 201 = some (2, 1, 0, 0, .int 1, []) := rfl
set_option maxRecDepth 100000 in
theorem i90_202 : INS 90 202 = some (27, 1, 0, 0, .null, []) := rfl
set_option maxRecDepth 100000 in
theorem i91_0 : INS 91 0 = some (0, 1, 1, 0, .null, []) := rfl
set_option maxRecDepth 100000 in
theorem i91_1 : INS 91 1 = some (24, 3, 116, 2, .null, []) := rfl
set_option maxRecDepth 100000 in
theorem i91_4 : INS 91 4 = some (9, 3, 37, 0, .null, []) := rfl
set_option maxRecDepth 100000 in
theorem i91_7 : INS 91 7 = some (0, 1, 0, 2, .null, []) := rfl
set_option maxRecDepth 100000 in
theorem i91_8 : INS 91 8 = some (16, 3, 10, 3, .null, []) := rfl
set_option maxRecDepth 100000 in
theorem i91_11 : INS 91 11 = some (0, 1, 1, 0, .null, []) := rfl
set_option maxRecDepth 100000 in
theorem i91_12 : INS 91 12 = some (18, 1, 23, 0, .null, []) := rfl
set_option maxRecDepth 100000 in
theorem i91_13 : INS 91 13 = some (16, 3, 9, 2, .null, []) := rfl
set_option maxRecDepth 100000 in
theorem i91_16 : INS 91 16 = some (2, 1, 0, 0, .int 1, []) := rfl
set_option maxRecDepth 100000 in
theorem i91_17 : INS 91 17 = some (10, 3, 37, 1, .null, []) := rfl
set_option maxRecDepth 100000 in
theorem i91_20 : INS 91 20 = some (0, 1, 0, 2, .null, []) := rfl
set_option maxRecDepth 100000 in
theorem i91_21 : INS 91 21 = some (16, 3, 10, 3, .null, []) := rfl
set_option maxRecDepth 100000 in
theorem i91_24 : INS 91 24 = some (0, 1, 1, 0, .null, []) := rfl
set_option maxRecDepth 100000 in
theorem i91_25 : INS 91 25 = some (18, 1, 23, 0, .null, []) := rfl
set_option maxRecDepth 100000 in
theorem i91_26 : INS 91 26 = some (16, 3, 9, 0, .null, []) := rfl
set_option maxRecDepth 100000 in
theorem i91_29 : INS 91 29 = some (0, 1, 2, 0, .null, []) := rfl
set_option maxRecDepth 100000 in
theorem i91_30 : INS 91 30 = some (2, 1, 0, 0, .int 1, []) := rfl
set_option maxRecDepth 100000 in
theorem i91_31 : INS 91 31 = some (24, 3, 78, 0, .null, []) := rfl
set_option maxRecDepth 100000 in
theorem i91_34 : INS 91 34 = some (9, 3, 39, 1, .null, []) := rfl
set_option maxRecDepth 100000 in
theorem i91_37 : INS 91 37 = some (2, 1, 0, 0, .long 0, []) := rfl
set_option maxRecDepth 100000 in
theorem i91_38 : INS 91 38 = some (27, 1, 1, 0, .null, []) := rfl
set_option maxRecDepth 100000 in
theorem i91_39 : INS 91 39 = some (0, 1, 0, 2, .null, []) := rfl
set_option maxRecDepth 100000 in
theorem i91_40 : INS 91 40 = some (16, 3, 10, 3, .null, []) := rfl
set_option maxRecDepth 100000 in
theorem i91_43 : INS 91 43 = some (0, 1, 1, 0, .null, []) := rfl
set_option maxRecDepth 100000 in
theorem i91_44 : INS 91 44 = some (18, 1, 23, 0, .null, []) := rfl
set_option maxRecDepth 100000 in
theorem i91_45 : INS 91 45 = some (16, 3, 9, 0, .null, []) := rfl
set_option maxRecDepth 100000 in
theorem i91_48 : INS 91 48 = some (16, 3, 8, 0, .null, []) := rfl
set_option maxRecDepth 100000 in
theorem i91_51 : INS 91 51 = some (0, 1, 2, 0, .null, []) := rfl
set_option maxRecDepth 100000 in
theorem i91_52 : INS 91 52 = some (18, 1, 21, 0, .null, []) := rfl
set_option maxRecDepth 100000 in
theorem i91_53 : INS 91 53 = some (27, 1, 1, 0, .null, []) := rfl
set_option maxRecDepth 100000 in
theorem i92_0 : INS 92 0 = some (0, 1, 1, 0, .null, []) := rfl
set_option maxRecDepth 100000 in
theorem i92_1 : INS 92 1 = some (24, 3, 116, 2, .null, []) := rfl
set_option maxRecDepth 100000 in
theorem i92_4 : INS 92 4 = some (9, 3, 13, 1, .null, []) := rfl
set_option maxRecDepth 100000 in
theorem i92_7 : INS 92 7 = some (0, 1, 0, 2, .null, []) := rfl
set_option maxRecDepth 100000 in
theorem i92_8 : INS 92 8 = some (2, 1, 0, 0, .int (-1), []) := rfl
set_option maxRecDepth 100000 in
theorem i92_9 : INS 92 9 = some (24, 3, 109, 0, .null, []) := rfl
set_option maxRecDepth 100000 in
theorem i92_12 : INS 92 12 = some (27, 1, 0, 0, .null, []) := rfl
set_option maxRecDepth 100000 in
theorem i92_13 : INS 92 13 = some (0, 1, 0, 2, .null, []) := rfl
set_option maxRecDepth 100000 in
theorem i92_14 : INS 92 14 = some (16, 3, 10, 3, .null, []) := rfl
set_option maxRecDepth 100000 in
theorem i92_17 : INS 92 17 = some (0, 1, 1, 0, .null, []) := rfl
set_option maxRecDepth 100000 in
theorem i92_18 : INS 92 18 = some (18, 1, 23, 0, .null, []) := rfl
set_option maxRecDepth 100000 in
theorem i92_19 : INS 92 19 = some (16, 3, 9, 2, .null, []) := rfl
set_option maxRecDepth 100000 in
theorem i92_22 : INS 92 22 = some (9, 3, 29, 1, .null, []) := rfl
set_option maxRecDepth 100000 in
theorem i92_25 : INS 92 25 = some (2, 1, 0, 0, .int 0, []) := rfl
set_option maxRecDepth 100000 in
theorem i92_26 : INS 92 26 = some (12, 3, 30, 0, .null, []) := rfl
set_option maxRecDepth 100000 in
theorem i92_29 : INS 92 29 = some (2, 1, 0, 0, .int 1, []) := rfl
set_option maxRecDepth 100000 in
theorem i92_30 : INS 92 30 = some (1, 1, 2, 0, .null, []) := rfl
set_option maxRecDepth 100000 in
theorem i92_31 : INS 92 31 = some (0, 1, 0, 2, .null, []) := rfl
set_option maxRecDepth 100000 in
theorem i92_32 : INS 92 32 = some (16, 3, 10, 3, .null, []) := rfl
set_option maxRecDepth 100000 in
theorem i92_35 : INS 92 35 = some (0, 1, 1, 0, .null, []) := rfl
set_option maxRecDepth 100000 in
theorem i92_36 : INS 92 36 = some (18, 1, 23, 0, .null, []) := rfl
set_option maxRecDepth 100000 in
theorem i92_37 : INS 92 37 = some (2, 1, 0, 0, .int 0, []) := rfl
set_option maxRecDepth 100000 in
theorem i92_38 : INS 92 38 = some (17, 3, 9, 2, .null, []) := rfl
set_option maxRecDepth 100000 in
theorem i92_41 : INS 92 41 = some (0, 1, 2, 0, .null, []) := rfl
set_option maxRecDepth 100000 in
theorem i92_42 : INS 92 42 = some (27, 1, 0, 0, .null, []) := rfl
set_option maxRecDepth 100000 in
theorem i93_0 : INS 93 0 = some (0, 1, 1, 0, .null, []) := rfl
set_option maxRecDepth 100000 in
theorem i93_1 : INS 93 1 = some (24, 3, 116, 2, .null, []) := rfl
set_option maxRecDepth 100000 in
theorem i93_4 : INS 93 4 = some (9, 3, 19, 0, .null, []) := rfl
set_option maxRecDepth 100000 in
theorem i93_7 : INS 93 7 = some (0, 1, 0, 2, .null, []) := rfl
set_option maxRecDepth 100000 in
theorem i93_8 : INS 93 8 = some (16, 3, 10, 3, .null, []) := rfl
set_option maxRecDepth 100000 in
theorem i93_11 : INS 93 11 = some (0, 1, 1, 0, .null, []) := rfl
set_option maxRecDepth 100000 in
theorem i93_12 : INS 93 12 = some (18, 1, 23, 0, .null, []) := rfl
set_option maxRecDepth 100000 in
theorem i93_13 : INS 93 13 = some (16, 3, 9, 2, .null, []) := rfl
set_option maxRecDepth 100000 in
theorem i93_16 : INS 93 16 = some (9, 3, 21, 1, .null, []) := rfl
set_option maxRecDepth 100000 in
theorem i93_19 : INS 93 19 = some (2, 1, 0, 0, .int (-1), []) := rfl
set_option maxRecDepth 100000 in
theorem i93_20 : INS 93 20 = some (27, 1, 0, 0, .null, []) := rfl
set_option maxRecDepth 100000 in
theorem i93_21 : INS 93 21 = some (0, 1, 0, 2, .null, []) := rfl
set_option maxRecDepth 100000 in
theorem i93_22 : INS 93 22 = some (16, 3, 10, 3, .null, []) := rfl
set_option maxRecDepth 100000 in
theorem i93_25 : INS 93 25 = some (0, 1, 1, 0, .null, []) := rfl
set_option maxRecDepth 100000 in
theorem i93_26 : INS 93 26 = some (18, 1, 23, 0, .null, []) := rfl
set_option maxRecDepth 100000 in
theorem i93_27 : INS 93 27 = some (16, 3, 9, 2, .null, []) := rfl
set_option maxRecDepth 100000 in
theorem i93_30 : INS 93 30 = some (2, 1, 0, 0, .int 2, []) := rfl
set_option maxRecDepth 100000 in
theorem i93_31 : INS 93 31 = some (10, 3, 38, 1, .null, []) := rfl
set_option maxRecDepth 100000 in
theorem i93_34 : INS 93 34 = some (2, 1, 0, 0, .int 0, []) := rfl
set_option maxRecDepth 100000 in
theorem i93_35 : INS 93 35 = some (12, 3, 53, 0, .null, []) := rfl
set_option maxRecDepth 100000 in
theorem i93_38 : INS 93 38 = some (2, 2, 0, 0, .int 100, []) := rfl
set_option maxRecDepth 100000 in
theorem i93_40 : INS 93 40 = some (0, 1, 0, 2, .null, []) := rfl
set_option maxRecDepth 100000 in
theorem i93_41 : INS 93 41 = some (16, 3, 10, 3, .null, []) := rfl
set_option maxRecDepth 100000 in
theorem i93_44 : INS 93 44 = some (0, 1, 1, 0, .null, []) := rfl
set_option maxRecDepth 100000 in
theorem i93_45 : INS 93 45 = some (18, 1, 23, 0, .null, []) := rfl
set_option maxRecDepth 100000 in
theorem i93_46 : INS 93 46 = some (16, 3, 9, 0, .null, []) := rfl
set_option maxRecDepth 100000 in
theorem i93_49 : INS 93 49 = some (16, 3, 8, 1, .null, []) := rfl
set_option maxRecDepth 100000 in
theorem i93_52 : INS 93 52 = some (3, 1, 0, 0, .null, []) := rfl
set_option maxRecDepth 100000 in
theorem i93_53 : INS 93 53 = some (27, 1, 0, 0, .null, []) := rfl
set_option maxRecDepth 100000 in
theorem i94_0 : INS 94 0 = some (0, 1, 1, 0, .null, []) := rfl
set_option maxRecDepth 100000 in
theorem i94_1 : INS 94 1 = some (24, 3, 116, 2, .null, []) := rfl
set_option maxRecDepth 100000 in
theorem i94_4 : INS 94 4 = some (9, 3, 14, 0, .null, []) := rfl
set_option maxRecDepth 100000 in
theorem i94_7 : INS 94 7 = some (0, 1, 2, 0, .null, []) := rfl
set_option maxRecDepth 100000 in
theorem i94_8 : INS 94 8 = some (24, 3, 115, 2, .null, []) := rfl
set_option maxRecDepth 100000 in
theorem i94_11 : INS 94 11 = some (9, 3, 20, 1, .null, []) := rfl
set_option maxRecDepth 100000 in
theorem i94_14 : INS 94 14 = some (0, 1, 0, 2, .null, []) := rfl
set_option maxRecDepth 100000 in
theorem i94_15 : INS 94 15 = some (2, 1, 0, 0, .int (-1), []) := rfl
set_option maxRecDepth 100000 in
theorem i94_16 : INS 94 16 = some (24, 3, 109, 0, .null, []) := rfl
set_option maxRecDepth 100000 in
theorem i94_19 : INS 94 19 = some (27, 1, 0, 0, .null, []) := rfl
set_option maxRecDepth 100000 in
theorem i94_20 : INS 94 20 = some (0, 1, 3, 0, .null, []) := rfl
set_option maxRecDepth 100000 in
theorem i94_21 : INS 94 21 = some (9, 3, 29, 2, .null, []) := rfl
set_option maxRecDepth 100000 in
theorem i94_24 : INS 94 24 = some (0, 2, 4, 0, .null, []) := rfl
set_option maxRecDepth 100000 in
theorem i94_26 : INS 94 26 = some (9, 3, 36, 3, .null, []) := rfl
set_option maxRecDepth 100000 in
theorem i94_29 : INS 94 29 = some (0, 1, 0, 2, .null, []) := rfl
set_option maxRecDepth 100000 in
theorem i94_30 : INS 94 30 = some (2, 2, 0, 0, .int (-4), []) := rfl
set_option maxRecDepth 100000 in
theorem i94_32 : INS 94 32 = some (24, 3, 109, 0, .null, []) := rfl
set_option maxRecDepth 100000 in
theorem i94_35 : INS 94 35 = some (27, 1, 0, 0, .null, []) := rfl
set_option maxRecDepth 100000 in
theorem i94_36 : INS 94 36 = some (0, 1, 3, 0, .null, []) := rfl
set_option maxRecDepth 100000 in
theorem i94_37 : INS 94 37 = some (9, 3, 55, 0, .null, []) := rfl
set_option maxRecDepth 100000 in
theorem i94_40 : INS 94 40 = some (0, 2, 4, 0, .null, []) := rfl
set_option maxRecDepth 100000 in
theorem i94_42 : INS 94 42 = some (9, 3, 55, 0, .null, []) := rfl
set_option maxRecDepth 100000 in
theorem i94_45 : INS 94 45 = some (0, 1, 2, 0, .null, []) := rfl
set_option maxRecDepth 100000 in
theorem i94_46 : INS 94 46 = some (0, 1, 3, 0, .null, []) := rfl
set_option maxRecDepth 100000 in
theorem i94_47 : INS 94 47 = some (0, 2, 4, 0, .null, []) := rfl
set_option maxRecDepth 100000 in
theorem i94_49 : INS 94 49 = some (24, 3, 119, 2, .null, []) := rfl
set_option maxRecDepth 100000 in
theorem i94_52 : INS 94 52 = some (9, 3, 62, 1, .null, []) := rfl
set_option maxRecDepth 100000 in
theorem i94_55 : INS 94 55 = some (0, 1, 0, 2, .null, []) := rfl
set_option maxRecDepth 100000 in
theorem i94_56 : INS 94 56 = some (2, 2, 0, 0, .int (-6), []) := rfl
set_option maxRecDepth 100000 in
theorem i94_58 : INS 94 58 = some (24, 3, 109, 0, .null, []) := rfl
set_option maxRecDepth 100000 in
theorem i94_61 : INS 94 61 = some (27, 1, 0, 0, .null, []) := rfl
set_option maxRecDepth 100000 in
theorem i94_62 : INS 94 62 = some (0, 1, 0, 2, .null, []) := rfl
set_option maxRecDepth 100000 in
theorem i94_63 : INS 94 63 = some (16, 3, 10, 3, .null, []) := rfl
set_option maxRecDepth 100000 in
theorem i94_66 : INS 94 66 = some (0, 1, 1, 0, .null, []) := rfl
set_option maxRecDepth 100000 in
theorem i94_67 : INS 94 67 = some (18, 1, 23, 0, .null, []) := rfl
set_option maxRecDepth 100000 in
theorem i94_68 : INS 94 68 = some (2, 1, 0, 0, .int 2, []) := rfl
set_option maxRecDepth 100000 in
theorem i94_69 : INS 94 69 = some (17, 3, 9, 2, .null, []) := rfl
set_option maxRecDepth 100000 in
theorem i94_72 : INS 94 72 = some (0, 1, 0, 2, .null, []) := rfl
set_option maxRecDepth 100000 in
theorem i94_73 : INS 94 73 = some (16, 3, 10, 3, .null, []) := rfl
set_option maxRecDepth 100000 in
theorem i94_76 : INS 94 76 = some (0, 1, 1, 0, .null, []) := rfl
set_option maxRecDepth 100000 in
theorem i94_77 : INS 94 77 = some (18, 1, 23, 0, .null, []) := rfl
set_option maxRecDepth 100000 in
theorem i94_78 : INS 94 78 = some (16, 3, 9, 1, .null, []) := rfl
set_option maxRecDepth 100000 in
theorem i94_81 : INS 94 81 = some (0, 1, 0, 2, .null, []) := rfl
set_option maxRecDepth 100000 in
theorem i94_82 : INS 94 82 = some (16, 3, 10, 2, .null, []) := rfl
set_option maxRecDepth 100000 in
theorem i94_85 : INS 94 85 = some (0, 1, 2, 0, .null, []) := rfl
set_option maxRecDepth 100000 in
theorem i94_86 : INS 94 86 = some (0, 1, 3, 0, .null, []) := rfl
set_option maxRecDepth 100000 in
theorem i94_87 : INS 94 87 = some (0, 2, 4, 0, .null, []) := rfl
set_option maxRecDepth 100000 in
theorem i94_89 : INS 94 89 = some (24, 3, 43, 0, .null, []) := rfl
set_option maxRecDepth 100000 in
theorem i94_92 : INS 94 92 = some (0, 1, 0, 2, .null, []) := rfl
set_option maxRecDepth 100000 in
theorem i94_93 : INS 94 93 = some (16, 3, 10, 3, .null, []) := rfl
set_option maxRecDepth 100000 in
theorem i94_96 : INS 94 96 = some (0, 1, 1, 0, .null, []) := rfl
set_option maxRecDepth 100000 in
theorem i94_97 : INS 94 97 = some (18, 1, 23, 0, .null, []) := rfl
set_option maxRecDepth 100000 in
theorem i94_98 : INS 94 98 = some (16, 3, 9, 1, .null, []) := rfl
set_option maxRecDepth 100000 in
theorem i94_101 : INS 94 101 = some (16, 3, 4, 8, .null, []) := rfl
set_option maxRecDepth 100000 in
theorem i94_104 : INS 94 104 = some (27, 1, 0, 0, .null, []) := rfl
set_option maxRecDepth 100000 in
theorem i95_0 : INS 95 0 = some (0, 1, 1, 0, .null, []) := rfl
set_option maxRecDepth 100000 in
theorem i95_1 : INS 95 1 = some (24, 3, 116, 2, .null, []) := rfl
set_option maxRecDepth 100000 in
theorem i95_4 : INS 95 4 = some (9, 3, 14, 0, .null, []) := rfl
set_option maxRecDepth 100000 in
theorem i95_7 : INS 95 7 = some (0, 1, 2, 0, .null, []) := rfl
set_option maxRecDepth 100000 in
theorem i95_8 : INS 95 8 = some (24, 3, 115, 2, .null, []) := rfl
set_option maxRecDepth 100000 in
theorem i95_11 : INS 95 11 = some (9, 3, 20, 1, .null, []) := rfl
set_option maxRecDepth 100000 in
theorem i95_14 : INS 95 14 = some (0, 1, 0, 2, .null, []) := rfl
set_option maxRecDepth 100000 in
theorem i95_15 : INS 95 15 = some (2, 1, 0, 0, .int (-1), []) := rfl
set_option maxRecDepth 100000 in
theorem i95_16 : INS 95 16 = some (24, 3, 109, 0, .null, []) := rfl
set_option maxRecDepth 100000 in
theorem i95_19 : INS 95 19 = some (27, 1, 0, 0, .null, []) := rfl
set_option maxRecDepth 100000 in
theorem i95_20 : INS 95 20 = some (0, 1, 0, 2, .null, []) := rfl
set_option maxRecDepth 100000 in
theorem i95_21 : INS 95 21 = some (0, 1, 1, 0, .null, []) := rfl
set_option maxRecDepth 100000 in
theorem i95_22 : INS 95 22 = some (24, 3, 111, 0, .null, []) := rfl
set_option maxRecDepth 100000 in
theorem i95_25 : INS 95 25 = some (1, 2, 4, 0, .null, []) := rfl
set_option maxRecDepth 100000 in
theorem i95_27 : INS 95 27 = some (0, 2, 4, 0, .null, []) := rfl
set_option maxRecDepth 100000 in
theorem i95_29 : INS 95 29 = some (9, 3, 39, 0, .null, []) := rfl
set_option maxRecDepth 100000 in
theorem i95_32 : INS 95 32 = some (0, 1, 0, 2, .null, []) := rfl
set_option maxRecDepth 100000 in
theorem i95_33 : INS 95 33 = some (0, 2, 4, 0, .null, []) := rfl
set_option maxRecDepth 100000 in
theorem i95_35 : INS 95 35 = some (24, 3, 109, 0, .null, []) := rfl
set_option maxRecDepth 100000 in
theorem i95_38 : INS 95 38 = some (27, 1, 0, 0, .null, []) := rfl
set_option maxRecDepth 100000 in
theorem i95_39 : INS 95 39 = some (0, 1, 0, 2, .null, []) := rfl
set_option maxRecDepth 100000 in
theorem i95_40 : INS 95 40 = some (16, 3, 10, 3, .null, []) := rfl
set_option maxRecDepth 100000 in
theorem i95_43 : INS 95 43 = some (0, 1, 1, 0, .null, []) := rfl
set_option maxRecDepth 100000 in
theorem i95_44 : INS 95 44 = some (18, 1, 23, 0, .null, []) := rfl
set_option maxRecDepth 100000 in
theorem i95_45 : INS 95 45 = some (16, 3, 9, 1, .null, []) := rfl
set_option maxRecDepth 100000 in
theorem i95_48 : INS 95 48 = some (1, 2, 5, 2, .null, []) := rfl
set_option maxRecDepth 100000 in
theorem i95_50 : INS 95 50 = some (0, 1, 3, 0, .null, []) := rfl
set_option maxRecDepth 100000 in
theorem i95_51 : INS 95 51 = some (2, 1, 0, 0, .int 0, []) := rfl
set_option maxRecDepth 100000 in
theorem i95_52 : INS 95 52 = some (2, 1, 0, 0, .int 3, []) := rfl
set_option maxRecDepth 100000 in
theorem i95_53 : INS 95 53 = some (24, 3, 114, 2, .null, []) := rfl
set_option maxRecDepth 100000 in
theorem i95_56 : INS 95 56 = some (9, 3, 78, 0, .null, []) := rfl
set_option maxRecDepth 100000 in
theorem i95_59 : INS 95 59 = some (0, 1, 2, 0, .null, []) := rfl
set_option maxRecDepth 100000 in
theorem i95_60 : INS 95 60 = some (0, 2, 5, 2, .null, []) := rfl
set_option maxRecDepth 100000 in
theorem i95_62 : INS 95 62 = some (0, 1, 3, 0, .null, []) := rfl
set_option maxRecDepth 100000 in
theorem i95_63 : INS 95 63 = some (24, 3, 45, 0, .null, []) := rfl
set_option maxRecDepth 100000 in
theorem i95_66 : INS 95 66 = some (0, 2, 5, 2, .null, []) := rfl
set_option maxRecDepth 100000 in
theorem i95_68 : INS 95 68 = some (0, 1, 3, 0, .null, []) := rfl
set_option maxRecDepth 100000 in
theorem i95_69 : INS 95 69 = some (24, 3, 46, 0, .null, []) := rfl
set_option maxRecDepth 100000 in
theorem i95_72 : INS 95 72 = some (24, 3, 119, 2, .null, []) := rfl
set_option maxRecDepth 100000 in
theorem i95_75 : INS 95 75 = some (9, 3, 85, 1, .null, []) := rfl
set_option maxRecDepth 100000 in
theorem i95_78 : INS 95 78 = some (0, 1, 0, 2, .null, []) := rfl
set_option maxRecDepth 100000 in
theorem i95_79 : INS 95 79 = some (2, 2, 0, 0, .int (-6), []) := rfl
set_option maxRecDepth 100000 in
theorem i95_81 : INS 95 81 = some (24, 3, 109, 0, .null, []) := rfl
set_option maxRecDepth 100000 in
theorem i95_84 : INS 95 84 = some (27, 1, 0, 0, .null, []) := rfl
set_option maxRecDepth 100000 in
theorem i95_85 : INS 95 85 = some (0, 2, 5, 2, .null, []) := rfl
set_option maxRecDepth 100000 in
theorem i95_87 : INS 95 87 = some (0, 1, 0, 2, .null, []) := rfl
set_option maxRecDepth 100000 in
theorem i95_88 : INS 95 88 = some (16, 3, 10, 2, .null, []) := rfl
set_option maxRecDepth 100000 in
theorem i95_91 : INS 95 91 = some (0, 1, 2, 0, .null, []) := rfl
set_option maxRecDepth 100000 in
theorem i95_92 : INS 95 92 = some (0, 1, 3, 0, .null, []) := rfl
set_option maxRecDepth 100000 in
theorem i95_93 : INS 95 93 = some (24, 3, 47, 0, .null, []) := rfl
set_option maxRecDepth 100000 in
theorem i95_96 : INS 95 96 = some (9, 3, 106, 1, .null, []) := rfl
set_option maxRecDepth 100000 in
theorem i95_99 : INS 95 99 = some (0, 1, 0, 2, .null, []) := rfl
set_option maxRecDepth 100000 in
theorem i95_100 : INS 95 100 = some (2, 2, 0, 0, .int (-6), []) := rfl
set_option maxRecDepth 100000 in
theorem i95_102 : INS 95 102 = some (24, 3, 109, 0, .null, []) := rfl
set_option maxRecDepth 100000 in
theorem i95_105 : INS 95 105 = some (27, 1, 0, 0, .null, []) := rfl
set_option maxRecDepth 100000 in
theorem i95_106 : INS 95 106 = some (0, 2, 5, 2, .null, []) := rfl
set_option maxRecDepth 100000 in
theorem i95_108 : INS 95 108 = some (0, 1, 0, 2, .null, []) := rfl
set_option maxRecDepth 100000 in
theorem i95_109 : INS 95 109 = some (16, 3, 10, 2, .null, []) := rfl
set_option maxRecDepth 100000 in
theorem i95_112 : INS 95 112 = some (0, 1, 2, 0, .null, []) := rfl
set_option maxRecDepth 100000 in
theorem i95_113 : INS 95 113 = some (0, 1, 3, 0, .null, []) := rfl
set_option maxRecDepth 100000 in
theorem i95_114 : INS 95 114 = some (24, 3, 48, 0, .null, []) := rfl
set_option maxRecDepth 100000 in
theorem i95_117 : INS 95 117 = some (0, 2, 5, 2, .null, []) := rfl
set_option maxRecDepth 100000 in
theorem i95_119 : INS 95 119 = some (16, 3, 4, 8, .null, []) := rfl
set_option maxRecDepth 100000 in
theorem i95_122 : INS 95 122 = some (27, 1, 0, 0, .null, []) := rfl
set_option maxRecDepth 100000 in
theorem i96_0 : INS 96 0 = some (0, 1, 0, 2, .null, []) := rfl
set_option maxRecDepth 100000 in
theorem i96_1 : INS 96 1 = some (0, 1, 1, 0, .null, []) := rfl
set_option maxRecDepth 100000 in
theorem i96_2 : INS 96 2 = some (24, 3, 111, 0, .null, []) := rfl
set_option maxRecDepth 100000 in
theorem i96_5 : INS 96 5 = some (1, 1, 2, 0, .null, []) := rfl
set_option maxRecDepth 100000 in
theorem i96_6 : INS 96 6 = some (0, 1, 2, 0, .null, []) := rfl
set_option maxRecDepth 100000 in
theorem i96_7 : INS 96 7 = some (9, 3, 18, 0, .null, []) := rfl
set_option maxRecDepth 100000 in
theorem i96_10 : INS 96 10 = some (0, 1, 0, 2, .null, []) := rfl
set_option maxRecDepth 100000 in
theorem i96_11 : INS 96 11 = some (0, 1, 2, 0, .null, []) := rfl
set_option maxRecDepth 100000 in
theorem i96_12 : INS 96 12 = some (24, 3, 109, 0, .null, []) := rfl
set_option maxRecDepth 100000 in
theorem i96_15 : INS 96 15 = some (12, 3, 30, 0, .null, []) := rfl
set_option maxRecDepth 100000 in
theorem i96_18 : INS 96 18 = some (0, 1, 0, 2, .null, []) := rfl
set_option maxRecDepth 100000 in
theorem i96_19 : INS 96 19 = some (16, 3, 10, 3, .null, []) := rfl
set_option maxRecDepth 100000 in
theorem i96_22 : INS 96 22 = some (0, 1, 1, 0, .null, []) := rfl
set_option maxRecDepth 100000 in
theorem i96_23 : INS 96 23 = some (18, 1, 23, 0, .null, []) := rfl
set_option maxRecDepth 100000 in
theorem i96_24 : INS 96 24 = some (16, 3, 9, 1, .null, []) := rfl
set_option maxRecDepth 100000 in
theorem i96_27 : INS 96 27 = some (16, 3, 4, 8, .null, []) := rfl
set_option maxRecDepth 100000 in
theorem i96_30 : INS 96 30 = some (27, 1, 0, 0, .null, []) := rfl
set_option maxRecDepth 100000 in
theorem i97_0 : INS 97 0 = some (0, 1, 1, 0, .null, []) := rfl
set_option maxRecDepth 100000 in
theorem i97_1 : INS 97 1 = some (2, 1, 0, 0, .int 1, []) := rfl
set_option maxRecDepth 100000 in
theorem i97_2 : INS 97 2 = some (2, 3, 0, 0, .int 200, []) := rfl
set_option maxRecDepth 100000 in
theorem i97_5 : INS 97 5 = some (24, 3, 114, 2, .null, []) := rfl
set_option maxRecDepth 100000 in
theorem i97_8 : INS 97 8 = some (9, 3, 18, 1, .null, []) := rfl
set_option maxRecDepth 100000 in
theorem i97_11 : INS 97 11 = some (0, 1, 0, 2, .null, []) := rfl
set_option maxRecDepth 100000 in
theorem i97_12 : INS 97 12 = some (2, 2, 0, 0, .int (-6), []) := rfl
set_option maxRecDepth 100000 in
theorem i97_14 : INS 97 14 = some (24, 3, 109, 0, .null, []) := rfl
set_option maxRecDepth 100000 in
theorem i97_17 : INS 97 17 = some (27, 1, 0, 0, .null, []) := rfl
set_option maxRecDepth 100000 in
theorem i97_18 : INS 97 18 = some (0, 1, 0, 2, .null, []) := rfl
set_option maxRecDepth 100000 in
theorem i97_19 : INS 97 19 = some (16, 3, 10, 2, .null, []) := rfl
set_option maxRecDepth 100000 in
theorem i97_22 : INS 97 22 = some (16, 3, 2, 3, .null, []) := rfl
set_option maxRecDepth 100000 in
theorem i97_25 : INS 97 25 = some (0, 1, 1, 0, .null, []) := rfl
set_option maxRecDepth 100000 in
theorem i97_26 : INS 97 26 = some (3, 1, 0, 0, .null, []) := rfl
set_option maxRecDepth 100000 in
theorem i97_27 : INS 97 27 = some (2, 3, 0, 0, .int 20000, []) := rfl
set_option maxRecDepth 100000 in
theorem i97_30 : INS 97 30 = some (10, 3, 40, 5, .null, []) := rfl
set_option maxRecDepth 100000 in
theorem i97_33 : INS 97 33 = some (0, 1, 0, 2, .null, []) := rfl
set_option maxRecDepth 100000 in
theorem i97_34 : INS 97 34 = some (2, 2, 0, 0, .int (-7), []) := rfl
set_option maxRecDepth 100000 in
theorem i97_36 : INS 97 36 = some (24, 3, 109, 0, .null, []) := rfl
set_option maxRecDepth 100000 in
theorem i97_39 : INS 97 39 = some (27, 1, 0, 0, .null, []) := rfl
set_option maxRecDepth 100000 in
theorem i97_40 : INS 97 40 = some (2, 1, 0, 0, .int 0, []) := rfl
set_option maxRecDepth 100000 in
theorem i97_41 : INS 97 41 = some (1, 1, 2, 0, .null, []) := rfl
set_option maxRecDepth 100000 in
theorem i97_42 : INS 97 42 = some (2, 1, 0, 0, .int 0, []) := rfl
set_option maxRecDepth 100000 in
theorem i97_43 : INS 97 43 = some (1, 1, 3, 0, .null, []) := rfl
set_option maxRecDepth 100000 in
theorem i97_44 : INS 97 44 = some (0, 1, 3, 0, .null, []) := rfl
set_option maxRecDepth 100000 in
theorem i97_45 : INS 97 45 = some (0, 1, 1, 0, .null, []) := rfl
set_option maxRecDepth 100000 in
theorem i97_46 : INS 97 46 = some (10, 3, 65, 3, .null, []) := rfl
set_option maxRecDepth 100000 in
theorem i97_49 : INS 97 49 = some (0, 1, 2, 0, .null, []) := rfl
set_option maxRecDepth 100000 in
theorem i97_50 : INS 97 50 = some (0, 1, 0, 2, .null, []) := rfl
set_option maxRecDepth 100000 in
theorem i97_51 : INS 97 51 = some (16, 3, 10, 2, .null, []) := rfl
set_option maxRecDepth 100000 in
theorem i97_54 : INS 97 54 = some (24, 3, 16, 0, .null, []) := rfl
set_option maxRecDepth 100000 in
theorem i97_57 : INS 97 57 = some (3, 1, 0, 0, .null, []) := rfl
set_option maxRecDepth 100000 in
theorem i97_58 : INS 97 58 = some (1, 1, 2, 0, .null, []) := rfl
set_option maxRecDepth 100000 in
theorem i97_59 : INS 97 59 = some (15, 3, 3, 0, .int 1, []) := rfl
set_option maxRecDepth 100000 in
theorem i97_62 : INS 97 62 = some (12, 3, 44, 0, .null, []) := rfl
set_option maxRecDepth 100000 in
theorem i97_65 : INS 97 65 = some (0, 1, 2, 0, .null, []) := rfl
set_option maxRecDepth 100000 in
theorem i97_66 : INS 97 66 = some (27, 1, 0, 0, .null, []) := rfl
set_option maxRecDepth 100000 in
theorem i98_0 : INS 98 0 = some (0, 1, 1, 0, .null, []) := rfl
set_option maxRecDepth 100000 in
theorem i98_1 : INS 98 1 = some (2, 1, 0, 0, .int 1, []) := rfl
set_option maxRecDepth 100000 in
theorem i98_2 : INS 98 2 = some (2, 3, 0, 0, .int 400, []) := rfl
set_option maxRecDepth 100000 in
theorem i98_5 : INS 98 5 = some (24, 3, 114, 2, .null, []) := rfl
set_option maxRecDepth 100000 in
theorem i98_8 : INS 98 8 = some (9, 3, 18, 1, .null, []) := rfl
set_option maxRecDepth 100000 in
theorem i98_11 : INS 98 11 = some (0, 1, 0, 2, .null, []) := rfl
set_option maxRecDepth 100000 in
theorem i98_12 : INS 98 12 = some (2, 2, 0, 0, .int (-6), []) := rfl
set_option maxRecDepth 100000 in
theorem i98_14 : INS 98 14 = some (24, 3, 109, 0, .null, []) := rfl
set_option maxRecDepth 100000 in
theorem i98_17 : INS 98 17 = some (27, 1, 0, 0, .null, []) := rfl
set_option maxRecDepth 100000 in
theorem i98_18 : INS 98 18 = some (0, 1, 0, 2, .null, []) := rfl
set_option maxRecDepth 100000 in
theorem i98_19 : INS 98 19 = some (16, 3, 10, 4, .null, []) := rfl
set_option maxRecDepth 100000 in
theorem i98_22 : INS 98 22 = some (0, 1, 0, 2, .null, []) := rfl
set_option maxRecDepth 100000 in
theorem i98_23 : INS 98 23 = some (16, 3, 10, 2, .null, []) := rfl
set_option maxRecDepth 100000 in
theorem i98_26 : INS 98 26 = some (0, 1, 1, 0, .null, []) := rfl
set_option maxRecDepth 100000 in
theorem i98_27 : INS 98 27 = some (24, 3, 5, 0, .null, []) := rfl
set_option maxRecDepth 100000 in
theorem i98_30 : INS 98 30 = some (9, 3, 35, 1, .null, []) := rfl
set_option maxRecDepth 100000 in
theorem i98_33 : INS 98 33 = some (2, 1, 0, 0, .int 0, []) := rfl
set_option maxRecDepth 100000 in
theorem i98_34 : INS 98 34 = some (27, 1, 0, 0, .null, []) := rfl
set_option maxRecDepth 100000 in
theorem i98_35 : INS 98 35 = some (0, 1, 0, 2, .null, []) := rfl
set_option maxRecDepth 100000 in
theorem i98_36 : INS 98 36 = some (16, 3, 10, 4, .null, []) := rfl
set_option maxRecDepth 100000 in
theorem i98_39 : INS 98 39 = some (24, 3, 9, 0, .null, []) := rfl
set_option maxRecDepth 100000 in
theorem i98_42 : INS 98 42 = some (0, 1, 0, 2, .null, []) := rfl
set_option maxRecDepth 100000 in
theorem i98_43 : INS 98 43 = some (16, 3, 10, 4, .null, []) := rfl
set_option maxRecDepth 100000 in
theorem i98_46 : INS 98 46 = some (16, 3, 1, 7, .null, []) := rfl
set_option maxRecDepth 100000 in
theorem i98_49 : INS 98 49 = some (27, 1, 0, 0, .null, []) := rfl
set_option maxRecDepth 100000 in
theorem i99_0 : INS 99 0 = some (0, 1, 0, 2, .null, []) := rfl
set_option maxRecDepth 100000 in
theorem i99_1 : INS 99 1 = some (16, 3, 10, 4, .null, []) := rfl
set_option maxRecDepth 100000 in
theorem i99_4 : INS 99 4 = some (0, 1, 1, 0, .null, []) := rfl
set_option maxRecDepth 100000 in
theorem i99_5 : INS 99 5 = some (24, 3, 11, 0, .null, []) := rfl
set_option maxRecDepth 100000 in
theorem i99_8 : INS 99 8 = some (27, 1, 0, 0, .null, []) := rfl
set_option maxRecDepth 100000 in
theorem i100_0 : INS 100 0 = some (0, 1, 1, 0, .null, []) := rfl
set_option maxRecDepth 100000 in
theorem i100_1 : INS 100 1 = some (24, 3, 115, 2, .null, []) := rfl
set_option maxRecDepth 100000 in
theorem i100_4 : INS 100 4 = some (9, 3, 19, 0, .null, []) := rfl
set_option maxRecDepth 100000 in
theorem i100_7 : INS 100 7 = some (0, 1, 0, 2, .null, []) := rfl
set_option maxRecDepth 100000 in
theorem i100_8 : INS 100 8 = some (16, 3, 10, 4, .null, []) := rfl
set_option maxRecDepth 100000 in
theorem i100_11 : INS 100 11 = some (0, 1, 1, 0, .null, []) := rfl
set_option maxRecDepth 100000 in
theorem i100_12 : INS 100 12 = some (0, 1, 2, 0, .null, []) := rfl
set_option maxRecDepth 100000 in
theorem i100_13 : INS 100 13 = some (24, 3, 12, 0, .null, []) := rfl
set_option maxRecDepth 100000 in
theorem i100_16 : INS 100 16 = some (12, 3, 20, 0, .null, []) := rfl
set_option maxRecDepth 100000 in
theorem i100_19 : INS 100 19 = some (2, 1, 0, 0, .int (-1), []) := rfl
set_option maxRecDepth 100000 in
theorem i100_20 : INS 100 20 = some (27, 1, 0, 0, .null, []) := rfl
set_option maxRecDepth 100000 in
theorem i101_0 : INS 101 0 = some (0, 1, 1, 0, .null, []) := rfl
set_option maxRecDepth 100000 in
theorem i101_1 : INS 101 1 = some (24, 3, 115, 2, .null, []) := rfl
set_option maxRecDepth 100000 in
theorem i101_4 : INS 101 4 = some (9, 3, 23, 0, .null, []) := rfl
set_option maxRecDepth 100000 in
theorem i101_7 : INS 101 7 = some (0, 1, 0, 2, .null, []) := rfl
set_option maxRecDepth 100000 in
theorem i101_8 : INS 101 8 = some (16, 3, 10, 2, .null, []) := rfl
set_option maxRecDepth 100000 in
theorem i101_11 : INS 101 11 = some (16, 3, 2, 1, .null, []) := rfl
set_option maxRecDepth 100000 in
theorem i101_14 : INS 101 14 = some (0, 1, 1, 0, .null, []) := rfl
set_option maxRecDepth 100000 in
theorem i101_15 : INS 101 15 = some (18, 1, 23, 0, .null, []) := rfl
set_option maxRecDepth 100000 in
theorem i101_16 : INS 101 16 = some (0, 1, 2, 0, .null, []) := rfl
set_option maxRecDepth 100000 in
theorem i101_17 : INS 101 17 = some (24, 3, 41, 0, .null, []) := rfl
set_option maxRecDepth 100000 in
theorem i101_20 : INS 101 20 = some (12, 3, 24, 0, .null, []) := rfl
set_option maxRecDepth 100000 in
theorem i101_23 : INS 101 23 = some (2, 1, 0, 0, .int (-1), []) := rfl
set_option maxRecDepth 100000 in
theorem i101_24 : INS 101 24 = some (27, 1, 0, 0, .null, []) := rfl
set_option maxRecDepth 100000 in
theorem i102_0 : INS 102 0 = some (0, 1, 1, 0, .null, []) := rfl
set_option maxRecDepth 100000 in
theorem i102_1 : INS 102 1 = some (24, 3, 117, 2, .null, []) := rfl
set_option maxRecDepth 100000 in
theorem i102_4 : INS 102 4 = some (9, 3, 19, 0, .null, []) := rfl
set_option maxRecDepth 100000 in
theorem i102_7 : INS 102 7 = some (0, 1, 0, 2, .null, []) := rfl
set_option maxRecDepth 100000 in
theorem i102_8 : INS 102 8 = some (16, 3, 10, 2, .null, []) := rfl
set_option maxRecDepth 100000 in
theorem i102_11 : INS 102 11 = some (16, 3, 2, 2, .null, []) := rfl
set_option maxRecDepth 100000 in
theorem i102_14 : INS 102 14 = some (0, 1, 1, 0, .null, []) := rfl
set_option maxRecDepth 100000 in
theorem i102_15 : INS 102 15 = some (18, 1, 20, 0, .null, []) := rfl
set_option maxRecDepth 100000 in
theorem i102_16 : INS 102 16 = some (12, 3, 20, 0, .null, []) := rfl
set_option maxRecDepth 100000 in
theorem i102_19 : INS 102 19 = some (2, 1, 0, 0, .int 0, []) := rfl
set_option maxRecDepth 100000 in
theorem i102_20 : INS 102 20 = some (27, 1, 0, 0, .null, []) := rfl
set_option maxRecDepth 100000 in
theorem i103_0 : INS 103 0 = some (0, 1, 1, 0, .null, []) := rfl
set_option maxRecDepth 100000 in
theorem i103_1 : INS 103 1 = some (24, 3, 117, 2, .null, []) := rfl
set_option maxRecDepth 100000 in
theorem i103_4 : INS 103 4 = some (9, 3, 19, 0, .null, []) := rfl
set_option maxRecDepth 100000 in
theorem i103_7 : INS 103 7 = some (0, 1, 0, 2, .null, []) := rfl
set_option maxRecDepth 100000 in
theorem i103_8 : INS 103 8 = some (16, 3, 10, 1, .null, []) := rfl
set_option maxRecDepth 100000 in
theorem i103_11 : INS 103 11 = some (0, 1, 1, 0, .null, []) := rfl
set_option maxRecDepth 100000 in
theorem i103_12 : INS 103 12 = some (24, 3, 3, 0, .null, []) := rfl
set_option maxRecDepth 100000 in
theorem i103_15 : INS 103 15 = some (2, 1, 0, 0, .int (-1), []) := rfl
set_option maxRecDepth 100000 in
theorem i103_16 : INS 103 16 = some (10, 3, 26, 1, .null, []) := rfl
set_option maxRecDepth 100000 in
theorem i103_19 : INS 103 19 = some (0, 1, 0, 2, .null, []) := rfl
set_option maxRecDepth 100000 in
theorem i103_20 : INS 103 20 = some (2, 2, 0, 0, .int (-6), []) := rfl
set_option maxRecDepth 100000 in
theorem i103_22 : INS 103 22 = some (24, 3, 109, 0, .null, []) := rfl
set_option maxRecDepth 100000 in
theorem i103_25 : INS 103 25 = some (27, 1, 0, 0, .null, []) := rfl
set_option maxRecDepth 100000 in
theorem i103_26 : INS 103 26 = some (0, 1, 2, 0, .null, []) := rfl
set_option maxRecDepth 100000 in
theorem i103_27 : INS 103 27 = some (2, 1, 0, 0, .int 1, []) := rfl
set_option maxRecDepth 100000 in
theorem i103_28 : INS 103 28 = some (2, 2, 0, 0, .int 60, []) := rfl
set_option maxRecDepth 100000 in
theorem i103_30 : INS 103 30 = some (24, 3, 114, 2, .null, []) := rfl
set_option maxRecDepth 100000 in
theorem i103_33 : INS 103 33 = some (9, 3, 46, 0, .null, []) := rfl
set_option maxRecDepth 100000 in
theorem i103_36 : INS 103 36 = some (0, 1, 3, 0, .null, []) := rfl
set_option maxRecDepth 100000 in
theorem i103_37 : INS 103 37 = some (2, 1, 0, 0, .int 1, []) := rfl
set_option maxRecDepth 100000 in
theorem i103_38 : INS 103 38 = some (2, 2, 0, 0, .int 60, []) := rfl
set_option maxRecDepth 100000 in
theorem i103_40 : INS 103 40 = some (24, 3, 114, 2, .null, []) := rfl
set_option maxRecDepth 100000 in
theorem i103_43 : INS 103 43 = some (9, 3, 53, 1, .null, []) := rfl
set_option maxRecDepth 100000 in
theorem i103_46 : INS 103 46 = some (0, 1, 0, 2, .null, []) := rfl
set_option maxRecDepth 100000 in
theorem i103_47 : INS 103 47 = some (2, 2, 0, 0, .int (-6), []) := rfl
set_option maxRecDepth 100000 in
theorem i103_49 : INS 103 49 = some (24, 3, 109, 0, .null, []) := rfl
set_option maxRecDepth 100000 in
theorem i103_52 : INS 103 52 = some (27, 1, 0, 0, .null, []) := rfl
set_option maxRecDepth 100000 in
theorem i103_53 : INS 103 53 = some (0, 1, 0, 2, .null, []) := rfl
set_option maxRecDepth 100000 in
theorem i103_54 : INS 103 54 = some (16, 3, 10, 6, .null, []) := rfl
set_option maxRecDepth 100000 in
theorem i103_57 : INS 103 57 = some (0, 1, 0, 2, .null, []) := rfl
set_option maxRecDepth 100000 in
theorem i103_58 : INS 103 58 = some (16, 3, 10, 1, .null, []) := rfl
set_option maxRecDepth 100000 in
theorem i103_61 : INS 103 61 = some (0, 1, 1, 0, .null, []) := rfl
set_option maxRecDepth 100000 in
theorem i103_62 : INS 103 62 = some (0, 1, 2, 0, .null, []) := rfl
set_option maxRecDepth 100000 in
theorem i103_63 : INS 103 63 = some (0, 1, 3, 0, .null, []) := rfl
set_option maxRecDepth 100000 in
theorem i103_64 : INS 103 64 = some (24, 3, 52, 0, .null, []) := rfl
set_option maxRecDepth 100000 in
theorem i103_67 : INS 103 67 = some (1, 2, 4, 0, .null, []) := rfl
set_option maxRecDepth 100000 in
theorem i103_69 : INS 103 69 = some (0, 2, 4, 0, .null, []) := rfl
set_option maxRecDepth 100000 in
theorem i103_71 : INS 103 71 = some (2, 1, 0, 0, .int (-1), []) := rfl
set_option maxRecDepth 100000 in
theorem i103_72 : INS 103 72 = some (10, 3, 84, 1, .null, []) := rfl
set_option maxRecDepth 100000 in
theorem i103_75 : INS 103 75 = some (0, 1, 0, 2, .null, []) := rfl
set_option maxRecDepth 100000 in
theorem i103_76 : INS 103 76 = some (2, 2, 0, 0, .int (-6), []) := rfl
set_option maxRecDepth 100000 in
theorem i103_78 : INS 103 78 = some (24, 3, 109, 0, .null, []) := rfl
set_option maxRecDepth 100000 in
theorem i103_81 : INS 103 81 = some (12, 3, 86, 0, .null, []) := rfl
set_option maxRecDepth 100000 in
theorem i103_84 : INS 103 84 = some (0, 2, 4, 0, .null, []) := rfl
set_option maxRecDepth 100000 in
theorem i103_86 : INS 103 86 = some (27, 1, 0, 0, .null, []) := rfl
set_option maxRecDepth 100000 in
theorem i104_0 : INS 104 0 = some (0, 1, 1, 0, .null, []) := rfl
set_option maxRecDepth 100000 in
theorem i104_1 : INS 104 1 = some (2, 1, 0, 0, .int 0, []) := rfl
set_option maxRecDepth 100000 in
theorem i104_2 : INS 104 2 = some (2, 2, 0, 0, .int 7, []) := rfl
set_option maxRecDepth 100000 in
theorem i104_4 : INS 104 4 = some (24, 3, 114, 2, .null, []) := rfl
set_option maxRecDepth 100000 in
theorem i104_7 : INS 104 7 = some (9, 3, 22, 0, .null, []) := rfl
set_option maxRecDepth 100000 in
theorem i104_10 : INS 104 10 = some (0, 1, 0, 2, .null, []) := rfl
set_option maxRecDepth 100000 in
theorem i104_11 : INS 104 11 = some (16, 3, 10, 6, .null, []) := rfl
set_option maxRecDepth 100000 in
theorem i104_14 : INS 104 14 = some (16, 3, 5, 0, .null, []) := rfl
set_option maxRecDepth 100000 in
theorem i104_17 : INS 104 17 = some (0, 1, 1, 0, .null, []) := rfl
set_option maxRecDepth 100000 in
theorem i104_18 : INS 104 18 = some (18, 1, 20, 0, .null, []) := rfl
set_option maxRecDepth 100000 in
theorem i104_19 : INS 104 19 = some (12, 3, 23, 0, .null, []) := rfl
set_option maxRecDepth 100000 in
theorem i104_22 : INS 104 22 = some (2, 1, 0, 0, .int 0, []) := rfl
set_option maxRecDepth 100000 in
theorem i104_23 : INS 104 23 = some (27, 1, 0, 0, .null, []) := rfl
set_option maxRecDepth 100000 in
theorem i105_0 : INS 105 0 = some (0, 1, 1, 0, .null, []) := rfl
set_option maxRecDepth 100000 in
theorem i105_1 : INS 105 1 = some (24, 3, 117, 2, .null, []) := rfl
set_option maxRecDepth 100000 in
theorem i105_4 : INS 105 4 = some (9, 3, 17, 1, .null, []) := rfl
set_option maxRecDepth 100000 in
theorem i105_7 : INS 105 7 = some (0, 1, 2, 0, .null, []) := rfl
set_option maxRecDepth 100000 in
theorem i105_8 : INS 105 8 = some (9, 3, 15, 0, .null, []) := rfl
set_option maxRecDepth 100000 in
theorem i105_11 : INS 105 11 = some (2, 1, 0, 0, .long 1, []) := rfl
set_option maxRecDepth 100000 in
theorem i105_12 : INS 105 12 = some (12, 3, 16, 0, .null, []) := rfl
set_option maxRecDepth 100000 in
theorem i105_15 : INS 105 15 = some (2, 1, 0, 0, .long 0, []) := rfl
set_option maxRecDepth 100000 in
theorem i105_16 : INS 105 16 = some (27, 1, 1, 0, .null, []) := rfl
set_option maxRecDepth 100000 in
theorem i105_17 : INS 105 17 = some (0, 1, 0, 2, .null, []) := rfl
set_option maxRecDepth 100000 in
theorem i105_18 : INS 105 18 = some (16, 3, 10, 6, .null, []) := rfl
set_option maxRecDepth 100000 in
theorem i105_21 : INS 105 21 = some (0, 1, 1, 0, .null, []) := rfl
set_option maxRecDepth 100000 in
theorem i105_22 : INS 105 22 = some (0, 1, 2, 0, .null, []) := rfl
set_option maxRecDepth 100000 in
theorem i105_23 : INS 105 23 = some (24, 3, 60, 0, .null, []) := rfl
set_option maxRecDepth 100000 in
theorem i105_26 : INS 105 26 = some (27, 1, 1, 0, .null, []) := rfl
set_option maxRecDepth 100000 in
theorem i106_0 : INS 106 0 = some (0, 1, 0, 2, .null, []) := rfl
set_option maxRecDepth 100000 in
theorem i106_1 : INS 106 1 = some (16, 3, 10, 5, .null, []) := rfl
set_option maxRecDepth 100000 in
theorem i106_4 : INS 106 4 = some (0, 1, 0, 2, .null, []) := rfl
set_option maxRecDepth 100000 in
theorem i106_5 : INS 106 5 = some (16, 3, 10, 2, .null, []) := rfl
set_option maxRecDepth 100000 in
theorem i106_8 : INS 106 8 = some (0, 1, 1, 0, .null, []) := rfl
set_option maxRecDepth 100000 in
theorem i106_9 : INS 106 9 = some (0, 1, 2, 0, .null, []) := rfl
set_option maxRecDepth 100000 in
theorem i106_10 : INS 106 10 = some (24, 3, 65, 0, .null, []) := rfl
set_option maxRecDepth 100000 in
theorem i106_13 : INS 106 13 = some (27, 1, 0, 0, .null, []) := rfl
set_option maxRecDepth 100000 in
theorem i107_0 : INS 107 0 = some (0, 1, 1, 0, .null, []) := rfl
set_option maxRecDepth 100000 in
theorem i107_1 : INS 107 1 = some (24, 3, 115, 2, .null, []) := rfl
set_option maxRecDepth 100000 in
theorem i107_4 : INS 107 4 = some (9, 3, 14, 0, .null, []) := rfl
set_option maxRecDepth 100000 in
theorem i107_7 : INS 107 7 = some (0, 1, 2, 0, .null, []) := rfl
set_option maxRecDepth 100000 in
theorem i107_8 : INS 107 8 = some (24, 3, 115, 2, .null, []) := rfl
set_option maxRecDepth 100000 in
theorem i107_11 : INS 107 11 = some (9, 3, 20, 1, .null, []) := rfl
set_option maxRecDepth 100000 in
theorem i107_14 : INS 107 14 = some (0, 1, 0, 2, .null, []) := rfl
set_option maxRecDepth 100000 in
theorem i107_15 : INS 107 15 = some (2, 1, 0, 0, .int (-1), []) := rfl
set_option maxRecDepth 100000 in
theorem i107_16 : INS 107 16 = some (24, 3, 109, 0, .null, []) := rfl
set_option maxRecDepth 100000 in
theorem i107_19 : INS 107 19 = some (27, 1, 0, 0, .null, []) := rfl
set_option maxRecDepth 100000 in
theorem i107_20 : INS 107 20 = some (0, 1, 0, 2, .null, []) := rfl
set_option maxRecDepth 100000 in
theorem i107_21 : INS 107 21 = some (16, 3, 10, 5, .null, []) := rfl
set_option maxRecDepth 100000 in
theorem i107_24 : INS 107 24 = some (0, 1, 0, 2, .null, []) := rfl
set_option maxRecDepth 100000 in
theorem i107_25 : INS 107 25 = some (16, 3, 10, 2, .null, []) := rfl
set_option maxRecDepth 100000 in
theorem i107_28 : INS 107 28 = some (0, 1, 1, 0, .null, []) := rfl
set_option maxRecDepth 100000 in
theorem i107_29 : INS 107 29 = some (0, 1, 2, 0, .null, []) := rfl
set_option maxRecDepth 100000 in
theorem i107_30 : INS 107 30 = some (24, 3, 65, 0, .null, []) := rfl
set_option maxRecDepth 100000 in
theorem i107_33 : INS 107 33 = some (1, 1, 3, 0, .null, []) := rfl
set_option maxRecDepth 100000 in
theorem i107_34 : INS 107 34 = some (0, 1, 3, 0, .null, []) := rfl
set_option maxRecDepth 100000 in
theorem i107_35 : INS 107 35 = some (2, 1, 0, 0, .int (-1), []) := rfl
set_option maxRecDepth 100000 in
theorem i107_36 : INS 107 36 = some (10, 3, 46, 1, .null, []) := rfl
set_option maxRecDepth 100000 in
theorem i107_39 : INS 107 39 = some (0, 1, 0, 2, .null, []) := rfl
set_option maxRecDepth 100000 in
theorem i107_40 : INS 107 40 = some (2, 2, 0, 0, .int (-6), []) := rfl
set_option maxRecDepth 100000 in
theorem i107_42 : INS 107 42 = some (24, 3, 109, 0, .null, []) := rfl
set_option maxRecDepth 100000 in
theorem i107_45 : INS 107 45 = some (27, 1, 0, 0, .null, []) := rfl
set_option maxRecDepth 100000 in
theorem i107_46 : INS 107 46 = some (0, 1, 0, 2, .null, []) := rfl
set_option maxRecDepth 100000 in
theorem i107_47 : INS 107 47 = some (16, 3, 10, 5, .null, []) := rfl
set_option maxRecDepth 100000 in
theorem i107_50 : INS 107 50 = some (0, 1, 0, 2, .null, []) := rfl
set_option maxRecDepth 100000 in
theorem i107_51 : INS 107 51 = some (16, 3, 10, 2, .null, []) := rfl
set_option maxRecDepth 100000 in
theorem i107_54 : INS 107 54 = some (0, 1, 1, 0, .null, []) := rfl
set_option maxRecDepth 100000 in
theorem i107_55 : INS 107 55 = some (0, 1, 2, 0, .null, []) := rfl
set_option maxRecDepth 100000 in
theorem i107_56 : INS 107 56 = some (0, 1, 3, 0, .null, []) := rfl
set_option maxRecDepth 100000 in
theorem i107_57 : INS 107 57 = some (24, 3, 72, 0, .null, []) := rfl
set_option maxRecDepth 100000 in
theorem i107_60 : INS 107 60 = some (0, 1, 3, 0, .null, []) := rfl
set_option maxRecDepth 100000 in
theorem i107_61 : INS 107 61 = some (27, 1, 0, 0, .null, []) := rfl
set_option maxRecDepth 100000 in
theorem i108_0 : INS 108 0 = some (0, 1, 1, 0, .null, []) := rfl
set_option maxRecDepth 100000 in
theorem i108_1 : INS 108 1 = some (13, 35, 76, 0, .null, [36, 44, 52, 60, 68]) := rfl
set_option maxRecDepth 100000 in
theorem i108_36 : INS 108 36 = some (0, 1, 0, 2, .null, []) := rfl
set_option maxRecDepth 100000 in
theorem i108_37 : INS 108 37 = some (16, 3, 10, 2, .null, []) := rfl
set_option maxRecDepth 100000 in
theorem i108_40 : INS 108 40 = some (24, 3, 22, 0, .null, []) := rfl
set_option maxRecDepth 100000 in
theorem i108_43 : INS 108 43 = some (27, 1, 0, 0, .null, []) := rfl
set_option maxRecDepth 100000 in
theorem i108_44 : INS 108 44 = some (0, 1, 0, 2, .null, []) := rfl
set_option maxRecDepth 100000 in
theorem i108_45 : INS 108 45 = some (16, 3, 10, 1, .null, []) := rfl
set_option maxRecDepth 100000 in
theorem i108_48 : INS 108 48 = some (16, 3, 0, 1, .null, []) := rfl
set_option maxRecDepth 100000 in
theorem i108_51 : INS 108 51 = some (27, 1, 0, 0, .null, []) := rfl
set_option maxRecDepth 100000 in
theorem i108_52 : INS 108 52 = some (0, 1, 0, 2, .null, []) := rfl
set_option maxRecDepth 100000 in
theorem i108_53 : INS 108 53 = some (16, 3, 10, 2, .null, []) := rfl
set_option maxRecDepth 100000 in
theorem i108_56 : INS 108 56 = some (16, 3, 2, 3, .null, []) := rfl
set_option maxRecDepth 100000 in
theorem i108_59 : INS 108 59 = some (27, 1, 0, 0, .null, []) := rfl
set_option maxRecDepth 100000 in
theorem i108_60 : INS 108 60 = some (0, 1, 0, 2, .null, []) := rfl
set_option maxRecDepth 100000 in
theorem i108_61 : INS 108 61 = some (16, 3, 10, 2, .null, []) := rfl
set_option maxRecDepth 100000 in
theorem i108_64 : INS 108 64 = some (24, 3, 23, 0, .null, []) := rfl
set_option maxRecDepth 100000 in
theorem i108_67 : INS 108 67 = some (27, 1, 0, 0, .null, []) := rfl
set_option maxRecDepth 100000 in
theorem i108_68 : INS 108 68 = some (0, 1, 0, 2, .null, []) := rfl
set_option maxRecDepth 100000 in
theorem i108_69 : INS 108 69 = some (16, 3, 10, 2, .null, []) := rfl
set_option maxRecDepth 100000 in
theorem i108_72 : INS 108 72 = some (24, 3, 24, 0, .null, []) := rfl
set_option maxRecDepth 100000 in
theorem i108_75 : INS 108 75 = some (27, 1, 0, 0, .null, []) := rfl
set_option maxRecDepth 100000 in
theorem i108_76 : INS 108 76 = some (0, 1, 1, 0, .null, []) := rfl
set_option maxRecDepth 100000 in
theorem i108_77 : INS 108 77 = some (2, 2, 0, 0, .int 11, []) := rfl
set_option maxRecDepth 100000 in
theorem i108_79 : INS 108 79 = some (2, 2, 0, 0, .int 17, []) := rfl
set_option maxRecDepth 100000 in
theorem i108_81 : INS 108 81 = some (24, 3, 114, 2, .null, []) := rfl
set_option maxRecDepth 100000 in
theorem i108_84 : INS 108 84 = some (9, 3, 99, 0, .null, []) := rfl
set_option maxRecDepth 100000 in
theorem i108_87 : INS 108 87 = some (0, 1, 0, 2, .null, []) := rfl
set_option maxRecDepth 100000 in
theorem i108_88 : INS 108 88 = some (16, 3, 10, 0, .null, []) := rfl
set_option maxRecDepth 100000 in
theorem i108_91 : INS 108 91 = some (0, 1, 1, 0, .null, []) := rfl
set_option maxRecDepth 100000 in
theorem i108_92 : INS 108 92 = some (2, 2, 0, 0, .int 10, []) := rfl
set_option maxRecDepth 100000 in
theorem i108_94 : INS 108 94 = some (3, 1, 1, 0, .null, []) := rfl
set_option maxRecDepth 100000 in
theorem i108_95 : INS 108 95 = some (18, 1, 20, 0, .null, []) := rfl
set_option maxRecDepth 100000 in
theorem i108_96 : INS 108 96 = some (12, 3, 100, 0, .null, []) := rfl
set_option maxRecDepth 100000 in
theorem i108_99 : INS 108 99 = some (2, 1, 0, 0, .int (-1), []) := rfl
set_option maxRecDepth 100000 in
theorem i108_100 : INS 108 100 = some (27, 1, 0, 0, .null, []) := rfl
set_option maxRecDepth 100000 in
theorem i109_0 : INS 109 0 = some (0, 1, 1, 0, .null, []) := rfl
set_option maxRecDepth 100000 in
theorem i109_1 : INS 109 1 = some (2, 2, 0, 0, .int (-7), []) := rfl
set_option maxRecDepth 100000 in
theorem i109_3 : INS 109 3 = some (2, 1, 0, 0, .int (-1), []) := rfl
set_option maxRecDepth 100000 in
theorem i109_4 : INS 109 4 = some (24, 3, 114, 2, .null, []) := rfl
set_option maxRecDepth 100000 in
theorem i109_7 : INS 109 7 = some (9, 3, 21, 0, .null, []) := rfl
set_option maxRecDepth 100000 in
theorem i109_10 : INS 109 10 = some (0, 1, 0, 2, .null, []) := rfl
set_option maxRecDepth 100000 in
theorem i109_11 : INS 109 11 = some (16, 3, 10, 0, .null, []) := rfl
set_option maxRecDepth 100000 in
theorem i109_14 : INS 109 14 = some (0, 1, 1, 0, .null, []) := rfl
set_option maxRecDepth 100000 in
theorem i109_15 : INS 109 15 = some (6, 1, 0, 0, .null, []) := rfl
set_option maxRecDepth 100000 in
theorem i109_16 : INS 109 16 = some (8, 1, 2, 0, .null, []) := rfl
set_option maxRecDepth 100000 in
theorem i109_17 : INS 109 17 = some (18, 1, 20, 0, .null, []) := rfl
set_option maxRecDepth 100000 in
theorem i109_18 : INS 109 18 = some (2, 1, 0, 0, .int 1, []) := rfl
set_option maxRecDepth 100000 in
theorem i109_19 : INS 109 19 = some (3, 1, 0, 0, .null, []) := rfl
set_option maxRecDepth 100000 in
theorem i109_20 : INS 109 20 = some (19, 1, 20, 0, .null, []) := rfl
set_option maxRecDepth 100000 in
theorem i109_21 : INS 109 21 = some (0, 1, 1, 0, .null, []) := rfl
set_option maxRecDepth 100000 in
theorem i109_22 : INS 109 22 = some (27, 1, 0, 0, .null, []) := rfl
set_option maxRecDepth 100000 in
theorem i110_0 : INS 110 0 = some (0, 1, 1, 0, .null, []) := rfl
set_option maxRecDepth 100000 in
theorem i110_1 : INS 110 1 = some (24, 3, 116, 2, .null, []) := rfl
set_option maxRecDepth 100000 in
theorem i110_4 : INS 110 4 = some (9, 3, 9, 1, .null, []) := rfl
set_option maxRecDepth 100000 in
theorem i110_7 : INS 110 7 = some (2, 1, 0, 0, .int (-1), []) := rfl
set_option maxRecDepth 100000 in
theorem i110_8 : INS 110 8 = some (27, 1, 0, 0, .null, []) := rfl
set_option maxRecDepth 100000 in
theorem i110_9 : INS 110 9 = some (0, 1, 0, 2, .null, []) := rfl
set_option maxRecDepth 100000 in
theorem i110_10 : INS 110 10 = some (16, 3, 10, 3, .null, []) := rfl
set_option maxRecDepth 100000 in
theorem i110_13 : INS 110 13 = some (0, 1, 1, 0, .null, []) := rfl
set_option maxRecDepth 100000 in
theorem i110_14 : INS 110 14 = some (18, 1, 23, 0, .null, []) := rfl
set_option maxRecDepth 100000 in
theorem i110_15 : INS 110 15 = some (16, 3, 9, 2, .null, []) := rfl
set_option maxRecDepth 100000 in
theorem i110_18 : INS 110 18 = some (2, 1, 0, 0, .int 2, []) := rfl
set_option maxRecDepth 100000 in
theorem i110_19 : INS 110 19 = some (10, 3, 25, 1, .null, []) := rfl
set_option maxRecDepth 100000 in
theorem i110_22 : INS 110 22 = some (2, 2, 0, 0, .int (-2), []) := rfl
set_option maxRecDepth 100000 in
theorem i110_24 : INS 110 24 = some (27, 1, 0, 0, .null, []) := rfl
set_option maxRecDepth 100000 in
theorem i110_25 : INS 110 25 = some (0, 1, 0, 2, .null, []) := rfl
set_option maxRecDepth 100000 in
theorem i110_26 : INS 110 26 = some (16, 3, 10, 3, .null, []) := rfl
set_option maxRecDepth 100000 in
theorem i110_29 : INS 110 29 = some (0, 1, 1, 0, .null, []) := rfl
set_option maxRecDepth 100000 in
theorem i110_30 : INS 110 30 = some (18, 1, 23, 0, .null, []) := rfl
set_option maxRecDepth 100000 in
theorem i110_31 : INS 110 31 = some (16, 3, 9, 2, .null, []) := rfl
set_option maxRecDepth 100000 in
theorem i110_34 : INS 110 34 = some (9, 3, 42, 1, .null, []) := rfl
set_option maxRecDepth 100000 in
theorem i110_37 : INS 110 37 = some (2, 2, 0, 0, .int (-3), []) := rfl
set_option maxRecDepth 100000 in
theorem i110_39 : INS 110 39 = some (12, 3, 43, 0, .null, []) := rfl
set_option maxRecDepth 100000 in
theorem i110_42 : INS 110 42 = some (2, 1, 0, 0, .int 0, []) := rfl
set_option maxRecDepth 100000 in
theorem i110_43 : INS 110 43 = some (27, 1, 0, 0, .null, []) := rfl
set_option maxRecDepth 100000 in
theorem i111_0 : INS 111 0 = some (0, 1, 1, 0, .null, []) := rfl
set_option maxRecDepth 100000 in
theorem i111_1 : INS 111 1 = some (24, 3, 116, 2, .null, []) := rfl
set_option maxRecDepth 100000 in
theorem i111_4 : INS 111 4 = some (9, 3, 9, 1, .null, []) := rfl
set_option maxRecDepth 100000 in
theorem i111_7 : INS 111 7 = some (2, 1, 0, 0, .int (-1), []) := rfl
set_option maxRecDepth 100000 in
theorem i111_8 : INS 111 8 = some (27, 1, 0, 0, .null, []) := rfl
set_option maxRecDepth 100000 in
theorem i111_9 : INS 111 9 = some (0, 1, 0, 2, .null, []) := rfl
set_option maxRecDepth 100000 in
theorem i111_10 : INS 111 10 = some (16, 3, 10, 3, .null, []) := rfl
set_option maxRecDepth 100000 in
theorem i111_13 : INS 111 13 = some (0, 1, 1, 0, .null, []) := rfl
set_option maxRecDepth 100000 in
theorem i111_14 : INS 111 14 = some (18, 1, 23, 0, .null, []) := rfl
set_option maxRecDepth 100000 in
theorem i111_15 : INS 111 15 = some (16, 3, 9, 2, .null, []) := rfl
set_option maxRecDepth 100000 in
theorem i111_18 : INS 111 18 = some (2, 1, 0, 0, .int 1, []) := rfl
set_option maxRecDepth 100000 in
theorem i111_19 : INS 111 19 = some (10, 3, 25, 1, .null, []) := rfl
set_option maxRecDepth 100000 in
theorem i111_22 : INS 111 22 = some (2, 2, 0, 0, .int (-2), []) := rfl
set_option maxRecDepth 100000 in
theorem i111_24 : INS 111 24 = some (27, 1, 0, 0, .null, []) := rfl
set_option maxRecDepth 100000 in
theorem i111_25 : INS 111 25 = some (0, 1, 0, 2, .null, []) := rfl
set_option maxRecDepth 100000 in
theorem i111_26 : INS 111 26 = some (16, 3, 10, 3, .null, []) := rfl
set_option maxRecDepth 100000 in
theorem i111_29 : INS 111 29 = some (0, 1, 1, 0, .null, []) := rfl
set_option maxRecDepth 100000 in
theorem i111_30 : INS 111 30 = some (18, 1, 23, 0, .null, []) := rfl
set_option maxRecDepth 100000 in
theorem i111_31 : INS 111 31 = some (16, 3, 9, 2, .null, []) := rfl
set_option maxRecDepth 100000 in
theorem i111_34 : INS 111 34 = some (9, 3, 42, 1, .null, []) := rfl
set_option maxRecDepth 100000 in
theorem i111_37 : INS 111 37 = some (2, 2, 0, 0, .int (-3), []) := rfl
set_option maxRecDepth 100000 in
theorem i111_39 : INS 111 39 = some (12, 3, 43, 0, .null, []) := rfl
set_option maxRecDepth 100000 in
theorem i111_42 : INS 111 42 = some (2, 1, 0, 0, .int 0, []) := rfl
set_option maxRecDepth 100000 in
theorem i111_43 : INS 111 43 = some (27, 1, 0, 0, .null, []) := rfl
set_option maxRecDepth 100000 in
theorem i112_0 : INS 112 0 = some (0, 1, 1, 0, .null, []) := rfl
set_option maxRecDepth 100000 in
theorem i112_1 : INS 112 1 = some (24, 3, 115, 2, .null, []) := rfl
set_option maxRecDepth 100000 in
theorem i112_4 : INS 112 4 = some (9, 3, 25, 0, .null, []) := rfl
set_option maxRecDepth 100000 in
theorem i112_7 : INS 112 7 = some (0, 1, 2, 0, .null, []) := rfl
set_option maxRecDepth 100000 in
theorem i112_8 : INS 112 8 = some (2, 2, 0, 0, .int 6, []) := rfl
set_option maxRecDepth 100000 in
theorem i112_10 : INS 112 10 = some (10, 3, 27, 1, .null, []) := rfl
set_option maxRecDepth 100000 in
theorem i112_13 : INS 112 13 = some (0, 1, 0, 2, .null, []) := rfl
set_option maxRecDepth 100000 in
theorem i112_14 : INS 112 14 = some (16, 3, 10, 1, .null, []) := rfl
set_option maxRecDepth 100000 in
theorem i112_17 : INS 112 17 = some (0, 2, 4, 0, .null, []) := rfl
set_option maxRecDepth 100000 in
theorem i112_19 : INS 112 19 = some (24, 3, 2, 0, .null, []) := rfl
set_option maxRecDepth 100000 in
theorem i112_22 : INS 112 22 = some (11, 3, 27, 1, .null, []) := rfl
set_option maxRecDepth 100000 in
theorem i112_25 : INS 112 25 = some (2, 1, 0, 0, .int (-1), []) := rfl
set_option maxRecDepth 100000 in
theorem i112_26 : INS 112 26 = some (27, 1, 0, 0, .null, []) := rfl
set_option maxRecDepth 100000 in
theorem i112_27 : INS 112 27 = some (0, 1, 2, 0, .null, []) := rfl
set_option maxRecDepth 100000 in
theorem i112_28 : INS 112 28 = some (2, 1, 0, 0, .int 1, []) := rfl
set_option maxRecDepth 100000 in
theorem i112_29 : INS 112 29 = some (2, 2, 0, 0, .int 7, []) := rfl
set_option maxRecDepth 100000 in
theorem i112_31 : INS 112 31 = some (24, 3, 114, 2, .null, []) := rfl
set_option maxRecDepth 100000 in
theorem i112_34 : INS 112 34 = some (9, 3, 45, 0, .null, []) := rfl
set_option maxRecDepth 100000 in
theorem i112_37 : INS 112 37 = some (0, 1, 2, 0, .null, []) := rfl
set_option maxRecDepth 100000 in
theorem i112_38 : INS 112 38 = some (0, 1, 3, 0, .null, []) := rfl
set_option maxRecDepth 100000 in
theorem i112_39 : INS 112 39 = some (24, 3, 118, 2, .null, []) := rfl
set_option maxRecDepth 100000 in
theorem i112_42 : INS 112 42 = some (9, 3, 48, 1, .null, []) := rfl
set_option maxRecDepth 100000 in
theorem i112_45 : INS 112 45 = some (2, 2, 0, 0, .int (-6), []) := rfl
set_option maxRecDepth 100000 in
theorem i112_47 : INS 112 47 = some (27, 1, 0, 0, .null, []) := rfl
set_option maxRecDepth 100000 in
theorem i112_48 : INS 112 48 = some (0, 1, 2, 0, .null, []) := rfl
set_option maxRecDepth 100000 in
theorem i112_49 : INS 112 49 = some (2, 1, 0, 0, .int 5, []) := rfl
set_option maxRecDepth 100000 in
theorem i112_50 : INS 112 50 = some (10, 3, 75, 1, .null, []) := rfl
set_option maxRecDepth 100000 in
theorem i112_53 : INS 112 53 = some (0, 2, 4, 0, .null, []) := rfl
set_option maxRecDepth 100000 in
theorem i112_55 : INS 112 55 = some (24, 3, 117, 2, .null, []) := rfl
set_option maxRecDepth 100000 in
theorem i112_58 : INS 112 58 = some (9, 3, 72, 0, .null, []) := rfl
set_option maxRecDepth 100000 in
theorem i112_61 : INS 112 61 = some (0, 2, 5, 0, .null, []) := rfl
set_option maxRecDepth 100000 in
theorem i112_63 : INS 112 63 = some (2, 1, 0, 0, .int 1, []) := rfl
set_option maxRecDepth 100000 in
theorem i112_64 : INS 112 64 = some (2, 2, 0, 0, .int 60, []) := rfl
set_option maxRecDepth 100000 in
theorem i112_66 : INS 112 66 = some (24, 3, 114, 2, .null, []) := rfl
set_option maxRecDepth 100000 in
theorem i112_69 : INS 112 69 = some (9, 3, 75, 1, .null, []) := rfl
set_option maxRecDepth 100000 in
theorem i112_72 : INS 112 72 = some (2, 2, 0, 0, .int (-6), []) := rfl
set_option maxRecDepth 100000 in
theorem i112_74 : INS 112 74 = some (27, 1, 0, 0, .null, []) := rfl
set_option maxRecDepth 100000 in
theorem i112_75 : INS 112 75 = some (0, 1, 0, 2, .null, []) := rfl
set_option maxRecDepth 100000 in
theorem i112_76 : INS 112 76 = some (16, 3, 10, 2, .null, []) := rfl
set_option maxRecDepth 100000 in
theorem i112_79 : INS 112 79 = some (16, 3, 2, 1, .null, []) := rfl
set_option maxRecDepth 100000 in
theorem i112_82 : INS 112 82 = some (0, 1, 1, 0, .null, []) := rfl
set_option maxRecDepth 100000 in
theorem i112_83 : INS 112 83 = some (18, 1, 23, 0, .null, []) := rfl
set_option maxRecDepth 100000 in
theorem i112_84 : INS 112 84 = some (16, 3, 3, 0, .null, []) := rfl
set_option maxRecDepth 100000 in
theorem i112_87 : INS 112 87 = some (9, 3, 94, 1, .null, []) := rfl
set_option maxRecDepth 100000 in
theorem i112_90 : INS 112 90 = some (2, 1, 0, 0, .int 0, []) := rfl
set_option maxRecDepth 100000 in
theorem i112_91 : INS 112 91 = some (12, 3, 96, 0, .null, []) := rfl
set_option maxRecDepth 100000 in
theorem i112_94 : INS 112 94 = some (2, 2, 0, 0, .int (-6), []) := rfl
set_option maxRecDepth 100000 in
theorem i112_96 : INS 112 96 = some (27, 1, 0, 0, .null, []) := rfl
set_option maxRecDepth 100000 in
theorem i113_0 : INS 113 0 = some (2, 1, 0, 0, .int 5, []) := rfl
set_option maxRecDepth 100000 in
theorem i113_1 : INS 113 1 = some (0, 1, 2, 0, .null, []) := rfl
set_option maxRecDepth 100000 in
theorem i113_2 : INS 113 2 = some (3, 1, 2, 0, .null, []) := rfl
set_option maxRecDepth 100000 in
theorem i113_3 : INS 113 3 = some (1, 1, 3, 0, .null, []) := rfl
set_option maxRecDepth 100000 in
theorem i113_4 : INS 113 4 = some (0, 1, 1, 2, .null, []) := rfl
set_option maxRecDepth 100000 in
theorem i113_5 : INS 113 5 = some (0, 1, 3, 0, .null, []) := rfl
set_option maxRecDepth 100000 in
theorem i113_6 : INS 113 6 = some (24, 3, 80, 0, .null, []) := rfl
set_option maxRecDepth 100000 in
theorem i113_9 : INS 113 9 = some (1, 2, 4, 0, .null, []) := rfl
set_option maxRecDepth 100000 in
theorem i113_11 : INS 113 11 = some (2, 1, 0, 0, .int 0, []) := rfl
set_option maxRecDepth 100000 in
theorem i113_12 : INS 113 12 = some (1, 2, 5, 0, .null, []) := rfl
set_option maxRecDepth 100000 in
theorem i113_14 : INS 113 14 = some (0, 2, 5, 0, .null, []) := rfl
set_option maxRecDepth 100000 in
theorem i113_16 : INS 113 16 = some (0, 1, 3, 0, .null, []) := rfl
set_option maxRecDepth 100000 in
theorem i113_17 : INS 113 17 = some (10, 3, 39, 3, .null, []) := rfl
set_option maxRecDepth 100000 in
theorem i113_20 : INS 113 20 = some (0, 1, 1, 2, .null, []) := rfl
set_option maxRecDepth 100000 in
theorem i113_21 : INS 113 21 = some (0, 2, 5, 0, .null, []) := rfl
set_option maxRecDepth 100000 in
theorem i113_23 : INS 113 23 = some (24, 3, 80, 0, .null, []) := rfl
set_option maxRecDepth 100000 in
theorem i113_26 : INS 113 26 = some (0, 2, 4, 0, .null, []) := rfl
set_option maxRecDepth 100000 in
theorem i113_28 : INS 113 28 = some (10, 3, 33, 1, .null, []) := rfl
set_option maxRecDepth 100000 in
theorem i113_31 : INS 113 31 = some (2, 1, 0, 0, .int 0, []) := rfl
set_option maxRecDepth 100000 in
theorem i113_32 : INS 113 32 = some (27, 1, 0, 0, .null, []) := rfl
set_option maxRecDepth 100000 in
theorem i113_33 : INS 113 33 = some (15, 3, 5, 0, .int 5, []) := rfl
set_option maxRecDepth 100000 in
theorem i113_36 : INS 113 36 = some (12, 3, 14, 0, .null, []) := rfl
set_option maxRecDepth 100000 in
theorem i113_39 : INS 113 39 = some (0, 1, 0, 2, .null, []) := rfl
set_option maxRecDepth 100000 in
theorem i113_40 : INS 113 40 = some (0, 2, 4, 0, .null, []) := rfl
set_option maxRecDepth 100000 in
theorem i113_42 : INS 113 42 = some (0, 1, 1, 2, .null, []) := rfl
set_option maxRecDepth 100000 in
theorem i113_43 : INS 113 43 = some (0, 1, 3, 0, .null, []) := rfl
set_option maxRecDepth 100000 in
theorem i113_44 : INS 113 44 = some (2, 1, 0, 0, .int 1, []) := rfl
set_option maxRecDepth 100000 in
theorem i113_45 : INS 113 45 = some (3, 1, 0, 0, .null, []) := rfl
set_option maxRecDepth 100000 in
theorem i113_46 : INS 113 46 = some (24, 3, 80, 0, .null, []) := rfl
set_option maxRecDepth 100000 in
theorem i113_49 : INS 113 49 = some (0, 1, 1, 2, .null, []) := rfl
set_option maxRecDepth 100000 in
theorem i113_50 : INS 113 50 = some (0, 1, 3, 0, .null, []) := rfl
set_option maxRecDepth 100000 in
theorem i113_51 : INS 113 51 = some (2, 1, 0, 0, .int 2, []) := rfl
set_option maxRecDepth 100000 in
theorem i113_52 : INS 113 52 = some (3, 1, 0, 0, .null, []) := rfl
set_option maxRecDepth 100000 in
theorem i113_53 : INS 113 53 = some (24, 3, 80, 0, .null, []) := rfl
set_option maxRecDepth 100000 in
theorem i113_56 : INS 113 56 = some (0, 1, 1, 2, .null, []) := rfl
set_option maxRecDepth 100000 in
theorem i113_57 : INS 113 57 = some (0, 1, 3, 0, .null, []) := rfl
set_option maxRecDepth 100000 in
theorem i113_58 : INS 113 58 = some (2, 1, 0, 0, .int 3, []) := rfl
set_option maxRecDepth 100000 in
theorem i113_59 : INS 113 59 = some (3, 1, 0, 0, .null, []) := rfl
set_option maxRecDepth 100000 in
theorem i113_60 : INS 113 60 = some (24, 3, 80, 0, .null, []) := rfl
set_option maxRecDepth 100000 in
theorem i113_63 : INS 113 63 = some (0, 1, 1, 2, .null, []) := rfl
set_option maxRecDepth 100000 in
theorem i113_64 : INS 113 64 = some (0, 1, 3, 0, .null, []) := rfl
set_option maxRecDepth 100000 in
theorem i113_65 : INS 113 65 = some (2, 1, 0, 0, .int 4, []) := rfl
set_option maxRecDepth 100000 in
theorem i113_66 : INS 113 66 = some (3, 1, 0, 0, .null, []) := rfl
set_option maxRecDepth 100000 in
theorem i113_67 : INS 113 67 = some (24, 3, 80, 0, .null, []) := rfl
set_option maxRecDepth 100000 in
theorem i113_70 : INS 113 70 = some (24, 3, 112, 0, .null, []) := rfl
set_option maxRecDepth 100000 in
theorem i113_73 : INS 113 73 = some (9, 3, 80, 1, .null, []) := rfl
set_option maxRecDepth 100000 in
theorem i113_76 : INS 113 76 = some (2, 1, 0, 0, .int 1, []) := rfl
set_option maxRecDepth 100000 in
theorem i113_77 : INS 113 77 = some (12, 3, 81, 0, .null, []) := rfl
set_option maxRecDepth 100000 in
theorem i113_80 : INS 113 80 = some (2, 1, 0, 0, .int 0, []) := rfl
set_option maxRecDepth 100000 in
theorem i113_81 : INS 113 81 = some (27, 1, 0, 0, .null, []) := rfl
set_option maxRecDepth 100000 in
theorem i124_0 : INS 124 0 = some (0, 1, 0, 2, .null, []) := rfl
set_option maxRecDepth 100000 in
theorem i124_1 : INS 124 1 = some (16, 3, 11, 0, .null, []) := rfl
set_option maxRecDepth 100000 in
theorem i124_4 : INS 124 4 = some (0, 1, 1, 0, .null, []) := rfl
set_option maxRecDepth 100000 in
theorem i124_5 : INS 124 5 = some (6, 1, 0, 0, .null, []) := rfl
set_option maxRecDepth 100000 in
theorem i124_6 : INS 124 6 = some (8, 1, 2, 0, .null, []) := rfl
set_option maxRecDepth 100000 in
theorem i124_7 : INS 124 7 = some (18, 1, 20, 0, .null, []) := rfl
set_option maxRecDepth 100000 in
theorem i124_8 : INS 124 8 = some (2, 1, 0, 0, .int 1, []) := rfl
set_option maxRecDepth 100000 in
theorem i124_9 : INS 124 9 = some (3, 1, 0, 0, .null, []) := rfl
set_option maxRecDepth 100000 in
theorem i124_10 : INS 124 10 = some (19, 1, 20, 0, .null, []) := rfl
set_option maxRecDepth 100000 in
theorem i124_11 : INS 124 11 = some (0, 1, 1, 0, .null, []) := rfl
set_option maxRecDepth 100000 in
theorem i124_12 : INS 124 12 = some (27, 1, 0, 0, .null, []) := rfl
set_option maxRecDepth 100000 in
theorem i128_0 : INS 128 0 = some (0, 1, 0, 2, .null, []) := rfl
set_option maxRecDepth 100000 in
theorem i128_1 : INS 128 1 = some (16, 3, 11, 8, .null, []) := rfl
set_option maxRecDepth 100000 in
theorem i128_4 : INS 128 4 = some (0, 1, 1, 0, .null, []) := rfl
set_option maxRecDepth 100000 in
theorem i128_5 : INS 128 5 = some (18, 1, 20, 0, .null, []) := rfl
set_option maxRecDepth 100000 in
theorem i128_6 : INS 128 6 = some (1, 1, 3, 0, .null, []) := rfl
set_option maxRecDepth 100000 in
theorem i128_7 : INS 128 7 = some (0, 1, 3, 0, .null, []) := rfl
set_option maxRecDepth 100000 in
theorem i128_8 : INS 128 8 = some (2, 1, 0, 0, .int 4, []) := rfl
set_option maxRecDepth 100000 in
theorem i128_9 : INS 128 9 = some (10, 3, 34, 1, .null, []) := rfl
set_option maxRecDepth 100000 in
theorem i128_12 : INS 128 12 = some (0, 1, 0, 2, .null, []) := rfl
set_option maxRecDepth 100000 in
theorem i128_13 : INS 128 13 = some (16, 3, 11, 9, .null, []) := rfl
set_option maxRecDepth 100000 in
theorem i128_16 : INS 128 16 = some (0, 1, 1, 0, .null, []) := rfl
set_option maxRecDepth 100000 in
theorem i128_17 : INS 128 17 = some (18, 1, 20, 0, .null, []) := rfl
set_option maxRecDepth 100000 in
theorem i128_18 : INS 128 18 = some (0, 1, 2, 0, .null, []) := rfl
set_option maxRecDepth 100000 in
theorem i128_19 : INS 128 19 = some (3, 1, 9, 0, .null, []) := rfl
set_option maxRecDepth 100000 in
theorem i128_20 : INS 128 20 = some (2, 1, 0, 0, .int 1, []) := rfl
set_option maxRecDepth 100000 in
theorem i128_21 : INS 128 21 = some (3, 1, 5, 0, .null, []) := rfl
set_option maxRecDepth 100000 in
theorem i128_22 : INS 128 22 = some (2, 1, 0, 0, .int 1, []) := rfl
set_option maxRecDepth 100000 in
theorem i128_23 : INS 128 23 = some (10, 3, 30, 1, .null, []) := rfl
set_option maxRecDepth 100000 in
theorem i128_26 : INS 128 26 = some (2, 1, 0, 0, .int 1, []) := rfl
set_option maxRecDepth 100000 in
theorem i128_27 : INS 128 27 = some (12, 3, 59, 0, .null, []) := rfl
set_option maxRecDepth 100000 in
theorem i128_30 : INS 128 30 = some (2, 1, 0, 0, .int 0, []) := rfl
set_option maxRecDepth 100000 in
theorem i128_31 : INS 128 31 = some (12, 3, 59, 0, .null, []) := rfl
set_option maxRecDepth 100000 in
theorem i128_34 : INS 128 34 = some (0, 1, 3, 0, .null, []) := rfl
set_option maxRecDepth 100000 in
theorem i128_35 : INS 128 35 = some (9, 3, 58, 0, .null, []) := rfl
set_option maxRecDepth 100000 in
theorem i128_38 : INS 128 38 = some (0, 1, 3, 0, .null, []) := rfl
set_option maxRecDepth 100000 in
theorem i128_39 : INS 128 39 = some (2, 2, 0, 0, .int 7, []) := rfl
set_option maxRecDepth 100000 in
theorem i128_41 : INS 128 41 = some (10, 3, 58, 0, .null, []) := rfl
set_option maxRecDepth 100000 in
theorem i128_44 : INS 128 44 = some (0, 1, 0, 2, .null, []) := rfl
set_option maxRecDepth 100000 in
theorem i128_45 : INS 128 45 = some (16, 3, 11, 9, .null, []) := rfl
set_option maxRecDepth 100000 in
theorem i128_48 : INS 128 48 = some (0, 1, 1, 0, .null, []) := rfl
set_option maxRecDepth 100000 in
theorem i128_49 : INS 128 49 = some (18, 1, 20, 0, .null, []) := rfl
set_option maxRecDepth 100000 in
theorem i128_50 : INS 128 50 = some (0, 1, 2, 0, .null, []) := rfl
set_option maxRecDepth 100000 in
theorem i128_51 : INS 128 51 = some (10, 3, 58, 1, .null, []) := rfl
set_option maxRecDepth 100000 in
theorem i128_54 : INS 128 54 = some (2, 1, 0, 0, .int 1, []) := rfl
set_option maxRecDepth 100000 in
theorem i128_55 : INS 128 55 = some (12, 3, 59, 0, .null, []) := rfl
set_option maxRecDepth 100000 in
theorem i128_58 : INS 128 58 = some (2, 1, 0, 0, .int 0, []) := rfl
set_option maxRecDepth 100000 in
theorem i128_59 : INS 128 59 = some (27, 1, 0, 0, .null, []) := rfl
set_option maxRecDepth 100000 in
theorem i129_0 : INS 129 0 = some (2, 1, 0, 0, .int 0, []) := rfl
set_option maxRecDepth 100000 in
theorem i129_1 : INS 129 1 = some (1, 1, 2, 0, .null, []) := rfl
set_option maxRecDepth 100000 in
theorem i129_2 : INS 129 2 = some (0, 1, 2, 0, .null, []) := rfl
set_option maxRecDepth 100000 in
theorem i129_3 : INS 129 3 = some (0, 1, 0, 2, .null, []) := rfl
set_option maxRecDepth 100000 in
theorem i129_4 : INS 129 4 = some (16, 3, 11, 1, .null, []) := rfl
set_option maxRecDepth 100000 in
theorem i129_7 : INS 129 7 = some (10, 3, 28, 3, .null, []) := rfl
set_option maxRecDepth 100000 in
theorem i129_10 : INS 129 10 = some (0, 1, 0, 2, .null, []) := rfl
set_option maxRecDepth 100000 in
theorem i129_11 : INS 129 11 = some (16, 3, 11, 3, .null, []) := rfl
set_option maxRecDepth 100000 in
theorem i129_14 : INS 129 14 = some (0, 1, 2, 0, .null, []) := rfl
set_option maxRecDepth 100000 in
theorem i129_15 : INS 129 15 = some (18, 1, 20, 0, .null, []) := rfl
set_option maxRecDepth 100000 in
theorem i129_16 : INS 129 16 = some (0, 1, 1, 0, .null, []) := rfl
set_option maxRecDepth 100000 in
theorem i129_17 : INS 129 17 = some (10, 3, 22, 1, .null, []) := rfl
set_option maxRecDepth 100000 in
theorem i129_20 : INS 129 20 = some (0, 1, 2, 0, .null, []) := rfl
set_option maxRecDepth 100000 in
theorem i129_21 : INS 129 21 = some (27, 1, 0, 0, .null, []) := rfl
set_option maxRecDepth 100000 in
theorem i129_22 : INS 129 22 = some (15, 3, 2, 0, .int 1, []) := rfl
set_option maxRecDepth 100000 in
theorem i129_25 : INS 129 25 = some (12, 3, 2, 0, .null, []) := rfl
set_option maxRecDepth 100000 in
theorem i129_28 : INS 129 28 = some (2, 1, 0, 0, .int (-1), []) := rfl
set_option maxRecDepth 100000 in
theorem i129_29 : INS 129 29 = some (27, 1, 0, 0, .null, []) := rfl
set_option maxRecDepth 100000 in
theorem i130_0 : INS 130 0 = some (0, 1, 1, 0, .null, []) := rfl
set_option maxRecDepth 100000 in
theorem i130_1 : INS 130 1 = some (24, 3, 126, 2, .null, []) := rfl
set_option maxRecDepth 100000 in
theorem i130_4 : INS 130 4 = some (9, 3, 59, 0, .null, []) := rfl
set_option maxRecDepth 100000 in
theorem i130_7 : INS 130 7 = some (0, 1, 2, 0, .null, []) := rfl
set_option maxRecDepth 100000 in
theorem i130_8 : INS 130 8 = some (2, 1, 0, 0, .int 1, []) := rfl
set_option maxRecDepth 100000 in
theorem i130_9 : INS 130 9 = some (2, 1, 0, 0, .int 4, []) := rfl
set_option maxRecDepth 100000 in
theorem i130_10 : INS 130 10 = some (24, 3, 123, 2, .null, []) := rfl
set_option maxRecDepth 100000 in
theorem i130_13 : INS 130 13 = some (9, 3, 59, 0, .null, []) := rfl
set_option maxRecDepth 100000 in
theorem i130_16 : INS 130 16 = some (0, 1, 3, 0, .null, []) := rfl
set_option maxRecDepth 100000 in
theorem i130_17 : INS 130 17 = some (2, 1, 0, 0, .int 1, []) := rfl
set_option maxRecDepth 100000 in
theorem i130_18 : INS 130 18 = some (2, 2, 0, 0, .int 60, []) := rfl
set_option maxRecDepth 100000 in
theorem i130_20 : INS 130 20 = some (24, 3, 123, 2, .null, []) := rfl
set_option maxRecDepth 100000 in
theorem i130_23 : INS 130 23 = some (9, 3, 59, 0, .null, []) := rfl
set_option maxRecDepth 100000 in
theorem i130_26 : INS 130 26 = some (0, 2, 4, 0, .null, []) := rfl
set_option maxRecDepth 100000 in
theorem i130_28 : INS 130 28 = some (24, 3, 126, 2, .null, []) := rfl
set_option maxRecDepth 100000 in
theorem i130_31 : INS 130 31 = some (9, 3, 59, 0, .null, []) := rfl
set_option maxRecDepth 100000 in
theorem i130_34 : INS 130 34 = some (0, 2, 5, 0, .null, []) := rfl
set_option maxRecDepth 100000 in
theorem i130_36 : INS 130 36 = some (2, 1, 0, 0, .int 1, []) := rfl
set_option maxRecDepth 100000 in
theorem i130_37 : INS 130 37 = some (2, 1, 0, 0, .int 4, []) := rfl
set_option maxRecDepth 100000 in
theorem i130_38 : INS 130 38 = some (24, 3, 123, 2, .null, []) := rfl
set_option maxRecDepth 100000 in
theorem i130_41 : INS 130 41 = some (9, 3, 59, 0, .null, []) := rfl
set_option maxRecDepth 100000 in
theorem i130_44 : INS 130 44 = some (0, 2, 8, 0, .null, []) := rfl
set_option maxRecDepth 100000 in
theorem i130_46 : INS 130 46 = some (2, 1, 0, 0, .int 0, []) := rfl
set_option maxRecDepth 100000 in
theorem i130_47 : INS 130 47 = some (2, 2, 0, 0, .int 100, []) := rfl
set_option maxRecDepth 100000 in
theorem i130_49 : INS 130 49 = some (24, 3, 123, 2, .null, []) := rfl
set_option maxRecDepth 100000 in
theorem i130_52 : INS 130 52 = some (9, 3, 59, 0, .null, []) := rfl
set_option maxRecDepth 100000 in
theorem i130_55 : INS 130 55 = some (2, 1, 0, 0, .int 1, []) := rfl
set_option maxRecDepth 100000 in
theorem i130_56 : INS 130 56 = some (12, 3, 60, 0, .null, []) := rfl
set_option maxRecDepth 100000 in
theorem i130_59 : INS 130 59 = some (2, 1, 0, 0, .int 0, []) := rfl
set_option maxRecDepth 100000 in
theorem i130_60 : INS 130 60 = some (1, 2, 9, 0, .null, []) := rfl
set_option maxRecDepth 100000 in
theorem i130_62 : INS 130 62 = some (0, 2, 9, 0, .null, []) := rfl
set_option maxRecDepth 100000 in
theorem i130_64 : INS 130 64 = some (9, 3, 113, 0, .null, []) := rfl
set_option maxRecDepth 100000 in
theorem i130_67 : INS 130 67 = some (0, 2, 6, 0, .null, []) := rfl
set_option maxRecDepth 100000 in
theorem i130_69 : INS 130 69 = some (9, 3, 90, 0, .null, []) := rfl
set_option maxRecDepth 100000 in
theorem i130_72 : INS 130 72 = some (0, 2, 6, 0, .null, []) := rfl
set_option maxRecDepth 100000 in
theorem i130_74 : INS 130 74 = some (24, 3, 126, 2, .null, []) := rfl
set_option maxRecDepth 100000 in
theorem i130_77 : INS 130 77 = some (9, 3, 113, 0, .null, []) := rfl
set_option maxRecDepth 100000 in
theorem i130_80 : INS 130 80 = some (0, 2, 7, 0, .null, []) := rfl
set_option maxRecDepth 100000 in
theorem i130_82 : INS 130 82 = some (2, 1, 0, 0, .int 1, []) := rfl
set_option maxRecDepth 100000 in
theorem i130_83 : INS 130 83 = some (2, 1, 0, 0, .int 4, []) := rfl
set_option maxRecDepth 100000 in
theorem i130_84 : INS 130 84 = some (24, 3, 123, 2, .null, []) := rfl
set_option maxRecDepth 100000 in
theorem i130_87 : INS 130 87 = some (9, 3, 113, 0, .null, []) := rfl
set_option maxRecDepth 100000 in
theorem i130_90 : INS 130 90 = some (0, 2, 4, 0, .null, []) := rfl
set_option maxRecDepth 100000 in
theorem i130_92 : INS 130 92 = some (0, 1, 1, 0, .null, []) := rfl
set_option maxRecDepth 100000 in
theorem i130_93 : INS 130 93 = some (10, 3, 113, 0, .null, []) := rfl
set_option maxRecDepth 100000 in
theorem i130_96 : INS 130 96 = some (0, 2, 6, 0, .null, []) := rfl
set_option maxRecDepth 100000 in
theorem i130_98 : INS 130 98 = some (0, 1, 1, 0, .null, []) := rfl
set_option maxRecDepth 100000 in
theorem i130_99 : INS 130 99 = some (10, 3, 113, 0, .null, []) := rfl
set_option maxRecDepth 100000 in
theorem i130_102 : INS 130 102 = some (0, 2, 4, 0, .null, []) := rfl
set_option maxRecDepth 100000 in
theorem i130_104 : INS 130 104 = some (0, 2, 6, 0, .null, []) := rfl
set_option maxRecDepth 100000 in
theorem i130_106 : INS 130 106 = some (10, 3, 113, 0, .null, []) := rfl
set_option maxRecDepth 100000 in
theorem i130_109 : INS 130 109 = some (2, 1, 0, 0, .int 1, []) := rfl
set_option maxRecDepth 100000 in
theorem i130_110 : INS 130 110 = some (12, 3, 114, 0, .null, []) := rfl
set_option maxRecDepth 100000 in
theorem i130_113 : INS 130 113 = some (2, 1, 0, 0, .int 0, []) := rfl
set_option maxRecDepth 100000 in
theorem i130_114 : INS 130 114 = some (1, 2, 9, 0, .null, []) := rfl
set_option maxRecDepth 100000 in
theorem i130_116 : INS 130 116 = some (0, 2, 9, 0, .null, []) := rfl
set_option maxRecDepth 100000 in
theorem i130_118 : INS 130 118 = some (9, 3, 130, 0, .null, []) := rfl
set_option maxRecDepth 100000 in
theorem i130_121 : INS 130 121 = some (0, 1, 0, 2, .null, []) := rfl
set_option maxRecDepth 100000 in
theorem i130_122 : INS 130 122 = some (0, 1, 1, 0, .null, []) := rfl
set_option maxRecDepth 100000 in
theorem i130_123 : INS 130 123 = some (24, 3, 129, 0, .null, []) := rfl
set_option maxRecDepth 100000 in
theorem i130_126 : INS 130 126 = some (2, 1, 0, 0, .int (-1), []) := rfl
set_option maxRecDepth 100000 in
theorem i130_127 : INS 130 127 = some (10, 3, 137, 0, .null, []) := rfl
set_option maxRecDepth 100000 in
theorem i130_130 : INS 130 130 = some (0, 1, 0, 2, .null, []) := rfl
set_option maxRecDepth 100000 in
theorem i130_131 : INS 130 131 = some (2, 2, 0, 0, .int (-6), []) := rfl
set_option maxRecDepth 100000 in
theorem i130_133 : INS 130 133 = some (24, 3, 124, 0, .null, []) := rfl
set_option maxRecDepth 100000 in
theorem i130_136 : INS 130 136 = some (27, 1, 0, 0, .null, []) := rfl
set_option maxRecDepth 100000 in
theorem i130_137 : INS 130 137 = some (0, 1, 0, 2, .null, []) := rfl
set_option maxRecDepth 100000 in
theorem i130_138 : INS 130 138 = some (16, 3, 11, 1, .null, []) := rfl
set_option maxRecDepth 100000 in
theorem i130_141 : INS 130 141 = some (2, 2, 0, 0, .int 8, []) := rfl
set_option maxRecDepth 100000 in
theorem i130_143 : INS 130 143 = some (10, 3, 153, 1, .null, []) := rfl
set_option maxRecDepth 100000 in
theorem i130_146 : INS 130 146 = some (0, 1, 0, 2, .null, []) := rfl
set_option maxRecDepth 100000 in
theorem i130_147 : INS 130 147 = some (2, 2, 0, 0, .int (-7), []) := rfl
set_option maxRecDepth 100000 in
theorem i130_149 : INS 130 149 = some (24, 3, 124, 0, .null, []) := rfl
set_option maxRecDepth 100000 in
theorem i130_152 : INS 130 152 = some (27, 1, 0, 0, .null, []) := rfl
set_option maxRecDepth 100000 in
theorem i130_153 : INS 130 153 = some (0, 1, 0, 2, .null, []) := rfl
set_option maxRecDepth 100000 in
theorem i130_154 : INS 130 154 = some (16, 3, 11, 3, .null, []) := rfl
set_option maxRecDepth 100000 in
theorem i130_157 : INS 130 157 = some (0, 1, 0, 2, .null, []) := rfl
set_option maxRecDepth 100000 in
theorem i130_158 : INS 130 158 = some (16, 3, 11, 1, .null, []) := rfl
set_option maxRecDepth 100000 in
theorem i130_161 : INS 130 161 = some (0, 1, 1, 0, .null, []) := rfl
set_option maxRecDepth 100000 in
theorem i130_162 : INS 130 162 = some (19, 1, 20, 0, .null, []) := rfl
set_option maxRecDepth 100000 in
theorem i130_163 : INS 130 163 = some (0, 1, 0, 2, .null, []) := rfl
set_option maxRecDepth 100000 in
theorem i130_164 : INS 130 164 = some (16, 3, 11, 2, .null, []) := rfl
set_option maxRecDepth 100000 in
theorem i130_167 : INS 130 167 = some (0, 1, 0, 2, .null, []) := rfl
set_option maxRecDepth 100000 in
theorem i130_168 : INS 130 168 = some (16, 3, 11, 1, .null, []) := rfl
set_option maxRecDepth 100000 in
theorem i130_171 : INS 130 171 = some (0, 1, 2, 0, .null, []) := rfl
set_option maxRecDepth 100000 in
theorem i130_172 : INS 130 172 = some (19, 1, 20, 0, .null, []) := rfl
set_option maxRecDepth 100000 in
theorem i130_173 : INS 130 173 = some (0, 1, 0, 2, .null, []) := rfl
set_option maxRecDepth 100000 in
theorem i130_174 : INS 130 174 = some (16, 3, 11, 4, .null, []) := rfl
set_option maxRecDepth 100000 in
theorem i130_177 : INS 130 177 = some (0, 1, 0, 2, .null, []) := rfl
set_option maxRecDepth 100000 in
theorem i130_178 : INS 130 178 = some (16, 3, 11, 1, .null, []) := rfl
set_option maxRecDepth 100000 in
theorem i130_181 : INS 130 181 = some (0, 1, 3, 0, .null, []) := rfl
set_option maxRecDepth 100000 in
theorem i130_182 : INS 130 182 = some (19, 1, 20, 0, .null, []) := rfl
set_option maxRecDepth 100000 in
theorem i130_183 : INS 130 183 = some (0, 1, 0, 2, .null, []) := rfl
set_option maxRecDepth 100000 in
theorem i130_184 : INS 130 184 = some (16, 3, 11, 5, .null, []) := rfl
set_option maxRecDepth 100000 in
theorem i130_187 : INS 130 187 = some (2, 1, 0, 0, .int 2, []) := rfl
set_option maxRecDepth 100000 in
theorem i130_188 : INS 130 188 = some (0, 1, 0, 2, .null, []) := rfl
set_option maxRecDepth 100000 in
theorem i130_189 : INS 130 189 = some (16, 3, 11, 1, .null, []) := rfl
set_option maxRecDepth 100000 in
theorem i130_192 : INS 130 192 = some (3, 1, 2, 0, .null, []) := rfl
set_option maxRecDepth 100000 in
theorem i130_193 : INS 130 193 = some (0, 2, 4, 0, .null, []) := rfl
set_option maxRecDepth 100000 in
theorem i130_195 : INS 130 195 = some (19, 1, 20, 0, .null, []) := rfl
set_option maxRecDepth 100000 in
theorem i130_196 : INS 130 196 = some (0, 1, 0, 2, .null, []) := rfl
set_option maxRecDepth 100000 in
theorem i130_197 : INS 130 197 = some (16, 3, 11, 6, .null, []) := rfl
set_option maxRecDepth 100000 in
theorem i130_200 : INS 130 200 = some (2, 1, 0, 0, .int 2, []) := rfl
set_option maxRecDepth 100000 in
theorem i130_201 : INS 130 201 = some (0, 1, 0, 2, .null, []) := rfl
set_option maxRecDepth 100000 in
theorem i130_202 : INS 130 202 = some (16, 3, 11, 1, .null, []) := rfl
set_option maxRecDepth 100000 in
theorem i130_205 : INS 130 205 = some (3, 1, 2, 0, .null, []) := rfl
set_option maxRecDepth 100000 in
theorem i130_206 : INS 130 206 = some (0, 2, 5, 0, .null, []) := rfl
set_option maxRecDepth 100000 in
theorem i130_208 : INS 130 208 = some (19, 1, 20, 0, .null, []) := rfl
set_option maxRecDepth 100000 in
theorem i130_209 : INS 130 209 = some (0, 1, 0, 2, .null, []) := rfl
set_option maxRecDepth 100000 in
theorem i130_210 : INS 130 210 = some (16, 3, 11, 5, .null, []) := rfl
set_option maxRecDepth 100000 in
theorem i130_213 : INS 130 213 = some (2, 1, 0, 0, .int 2, []) := rfl
set_option maxRecDepth 100000 in
theorem i130_214 : INS 130 214 = some (0, 1, 0, 2, .null, []) := rfl
set_option maxRecDepth 100000 in
theorem i130_215 : INS 130 215 = some (16, 3, 11, 1, .null, []) := rfl
set_option maxRecDepth 100000 in
theorem i130_218 : INS 130 218 = some (3, 1, 2, 0, .null, []) := rfl
set_option maxRecDepth 100000 in
theorem i130_219 : INS 130 219 = some (2, 1, 0, 0, .int 1, []) := rfl
set_option maxRecDepth 100000 in
theorem i130_220 : INS 130 220 = some (3, 1, 0, 0, .null, []) := rfl
set_option maxRecDepth 100000 in
theorem i130_221 : INS 130 221 = some (0, 2, 6, 0, .null, []) := rfl
set_option maxRecDepth 100000 in
theorem i130_223 : INS 130 223 = some (19, 1, 20, 0, .null, []) := rfl
set_option maxRecDepth 100000 in
theorem i130_224 : INS 130 224 = some (0, 1, 0, 2, .null, []) := rfl
set_option maxRecDepth 100000 in
theorem i130_225 : INS 130 225 = some (16, 3, 11, 6, .null, []) := rfl
set_option maxRecDepth 100000 in
theorem i130_228 : INS 130 228 = some (2, 1, 0, 0, .int 2, []) := rfl
set_option maxRecDepth 100000 in
theorem i130_229 : INS 130 229 = some (0, 1, 0, 2, .null, []) := rfl
set_option maxRecDepth 100000 in
theorem i130_230 : INS 130 230 = some (16, 3, 11, 1, .null, []) := rfl
set_option maxRecDepth 100000 in
theorem i130_233 : INS 130 233 = some (3, 1, 2, 0, .null, []) := rfl
set_option maxRecDepth 100000 in
theorem i130_234 : INS 130 234 = some (2, 1, 0, 0, .int 1, []) := rfl
set_option maxRecDepth 100000 in
theorem i130_235 : INS 130 235 = some (3, 1, 0, 0, .null, []) := rfl
set_option maxRecDepth 100000 in
theorem i130_236 : INS 130 236 = some (0, 2, 6, 0, .null, []) := rfl
set_option maxRecDepth 100000 in
theorem i130_238 : INS 130 238 = some (9, 3, 245, 1, .null, []) := rfl
set_option maxRecDepth 100000 in
theorem i130_241 : INS 130 241 = some (2, 1, 0, 0, .int 0, []) := rfl
set_option maxRecDepth 100000 in
theorem i130_242 : INS 130 242 = some (12, 3, 247, 0, .null, []) := rfl
set_option maxRecDepth 100000 in
theorem i130_245 : INS 130 245 = some (0, 2, 7, 0, .null, []) := rfl
set_option maxRecDepth 100000 in
theorem i130_247 : INS 130 247 = some (19, 1, 20, 0, .null, []) := rfl
set_option maxRecDepth 100000 in
theorem i130_248 : INS 130 248 = some (0, 1, 0, 2, .null, []) := rfl
set_option maxRecDepth 100000 in
theorem i130_249 : INS 130 249 = some (16, 3, 11, 7, .null, []) := rfl
set_option maxRecDepth 100000 in
theorem i130_252 : INS 130 252 = some (0, 1, 0, 2, .null, []) := rfl
set_option maxRecDepth 100000 in
theorem i130_253 : INS 130 253 = some (16, 3, 11, 1, .null, []) := rfl
set_option maxRecDepth 100000 in
theorem i130_256 : INS 130 256 = some (0, 2, 8, 0, .null, []) := rfl
set_option maxRecDepth 100000 in
theorem i130_258 : INS 130 258 = some (19, 1, 20, 0, .null, []) := rfl
set_option maxRecDepth 100000 in
theorem i130_259 : INS 130 259 = some (0, 1, 0, 2, .null, []) := rfl
set_option maxRecDepth 100000 in
theorem i130_260 : INS 130 260 = some (8, 1, 0, 0, .null, []) := rfl
set_option maxRecDepth 100000 in
theorem i130_261 : INS 130 261 = some (16, 3, 11, 1, .null, []) := rfl
set_option maxRecDepth 100000 in
theorem i130_264 : INS 130 264 = some (2, 1, 0, 0, .int 1, []) := rfl
set_option maxRecDepth 100000 in
theorem i130_265 : INS 130 265 = some (3, 1, 0, 0, .null, []) := rfl
set_option maxRecDepth 100000 in
theorem i130_266 : INS 130 266 = some (17, 3, 11, 1, .null, []) := rfl
set_option maxRecDepth 100000 in
theorem i130_269 : INS 130 269 = some (0, 1, 0, 2, .null, []) := rfl
set_option maxRecDepth 100000 in
theorem i130_270 : INS 130 270 = some (16, 3, 11, 1, .null, []) := rfl
set_option maxRecDepth 100000 in
theorem i130_273 : INS 130 273 = some (2, 1, 0, 0, .int 1, []) := rfl
set_option maxRecDepth 100000 in
theorem i130_274 : INS 130 274 = some (3, 1, 1, 0, .null, []) := rfl
set_option maxRecDepth 100000 in
theorem i130_275 : INS 130 275 = some (27, 1, 0, 0, .null, []) := rfl
set_option maxRecDepth 100000 in
theorem i132_0 : INS 132 0 = some (0, 1, 1, 0, .null, []) := rfl
set_option maxRecDepth 100000 in
theorem i132_1 : INS 132 1 = some (24, 3, 125, 2, .null, []) := rfl
set_option maxRecDepth 100000 in
theorem i132_4 : INS 132 4 = some (9, 3, 28, 0, .null, []) := rfl
set_option maxRecDepth 100000 in
theorem i132_7 : INS 132 7 = some (0, 1, 2, 0, .null, []) := rfl
set_option maxRecDepth 100000 in
theorem i132_8 : INS 132 8 = some (2, 2, 0, 0, .int 6, []) := rfl
set_option maxRecDepth 100000 in
theorem i132_10 : INS 132 10 = some (10, 3, 30, 1, .null, []) := rfl
set_option maxRecDepth 100000 in
theorem i132_13 : INS 132 13 = some (0, 2, 4, 0, .null, []) := rfl
set_option maxRecDepth 100000 in
theorem i132_15 : INS 132 15 = some (2, 1, 0, 0, .int 0, []) := rfl
set_option maxRecDepth 100000 in
theorem i132_16 : INS 132 16 = some (0, 1, 0, 2, .null, []) := rfl
set_option maxRecDepth 100000 in
theorem i132_17 : INS 132 17 = some (16, 3, 11, 1, .null, []) := rfl
set_option maxRecDepth 100000 in
theorem i132_20 : INS 132 20 = some (2, 1, 0, 0, .int 1, []) := rfl
set_option maxRecDepth 100000 in
theorem i132_21 : INS 132 21 = some (3, 1, 1, 0, .null, []) := rfl
set_option maxRecDepth 100000 in
theorem i132_22 : INS 132 22 = some (24, 3, 123, 2, .null, []) := rfl
set_option maxRecDepth 100000 in
theorem i132_25 : INS 132 25 = some (9, 3, 30, 1, .null, []) := rfl
set_option maxRecDepth 100000 in
theorem i132_28 : INS 132 28 = some (2, 1, 0, 0, .int (-1), []) := rfl
set_option maxRecDepth 100000 in
theorem i132_29 : INS 132 29 = some (27, 1, 0, 0, .null, []) := rfl
set_option maxRecDepth 100000 in
theorem i132_30 : INS 132 30 = some (0, 1, 2, 0, .null, []) := rfl
set_option maxRecDepth 100000 in
theorem i132_31 : INS 132 31 = some (2, 1, 0, 0, .int 1, []) := rfl
set_option maxRecDepth 100000 in
theorem i132_32 : INS 132 32 = some (2, 2, 0, 0, .int 7, []) := rfl
set_option maxRecDepth 100000 in
theorem i132_34 : INS 132 34 = some (24, 3, 123, 2, .null, []) := rfl
set_option maxRecDepth 100000 in
theorem i132_37 : INS 132 37 = some (9, 3, 89, 0, .null, []) := rfl
set_option maxRecDepth 100000 in
theorem i132_40 : INS 132 40 = some (0, 1, 2, 0, .null, []) := rfl
set_option maxRecDepth 100000 in
theorem i132_41 : INS 132 41 = some (2, 2, 0, 0, .int 7, []) := rfl
set_option maxRecDepth 100000 in
theorem i132_43 : INS 132 43 = some (10, 3, 85, 0, .null, []) := rfl
set_option maxRecDepth 100000 in
theorem i132_46 : INS 132 46 = some (0, 1, 2, 0, .null, []) := rfl
set_option maxRecDepth 100000 in
theorem i132_47 : INS 132 47 = some (2, 1, 0, 0, .int 4, []) := rfl
set_option maxRecDepth 100000 in
theorem i132_48 : INS 132 48 = some (10, 3, 76, 1, .null, []) := rfl
set_option maxRecDepth 100000 in
theorem i132_51 : INS 132 51 = some (0, 1, 3, 0, .null, []) := rfl
set_option maxRecDepth 100000 in
theorem i132_52 : INS 132 52 = some (2, 1, 0, 0, .int 1, []) := rfl
set_option maxRecDepth 100000 in
theorem i132_53 : INS 132 53 = some (2, 2, 0, 0, .int 15, []) := rfl
set_option maxRecDepth 100000 in
theorem i132_55 : INS 132 55 = some (24, 3, 123, 2, .null, []) := rfl
set_option maxRecDepth 100000 in
theorem i132_58 : INS 132 58 = some (9, 3, 89, 0, .null, []) := rfl
set_option maxRecDepth 100000 in
theorem i132_61 : INS 132 61 = some (0, 1, 3, 0, .null, []) := rfl
set_option maxRecDepth 100000 in
theorem i132_62 : INS 132 62 = some (24, 3, 131, 2, .null, []) := rfl
set_option maxRecDepth 100000 in
theorem i132_65 : INS 132 65 = some (2, 1, 0, 0, .int 2, []) := rfl
set_option maxRecDepth 100000 in
theorem i132_66 : INS 132 66 = some (2, 1, 0, 0, .int 3, []) := rfl
set_option maxRecDepth 100000 in
theorem i132_67 : INS 132 67 = some (24, 3, 123, 2, .null, []) := rfl
set_option maxRecDepth 100000 in
theorem i132_70 : INS 132 70 = some (9, 3, 89, 0, .null, []) := rfl
set_option maxRecDepth 100000 in
theorem i132_73 : INS 132 73 = some (12, 3, 85, 0, .null, []) := rfl
set_option maxRecDepth 100000 in
theorem i132_76 : INS 132 76 = some (0, 1, 3, 0, .null, []) := rfl
set_option maxRecDepth 100000 in
theorem i132_77 : INS 132 77 = some (2, 1, 0, 0, .int 0, []) := rfl
set_option maxRecDepth 100000 in
theorem i132_78 : INS 132 78 = some (2, 1, 0, 0, .int 3, []) := rfl
set_option maxRecDepth 100000 in
theorem i132_79 : INS 132 79 = some (24, 3, 123, 2, .null, []) := rfl
set_option maxRecDepth 100000 in
theorem i132_82 : INS 132 82 = some (9, 3, 89, 0, .null, []) := rfl
set_option maxRecDepth 100000 in
theorem i132_85 : INS 132 85 = some (2, 1, 0, 0, .int 1, []) := rfl
set_option maxRecDepth 100000 in
theorem i132_86 : INS 132 86 = some (12, 3, 90, 0, .null, []) := rfl
set_option maxRecDepth 100000 in
theorem i132_89 : INS 132 89 = some (2, 1, 0, 0, .int 0, []) := rfl
set_option maxRecDepth 100000 in
theorem i132_90 : INS 132 90 = some (1, 2, 6, 0, .null, []) := rfl
set_option maxRecDepth 100000 in
theorem i132_92 : INS 132 92 = some (0, 2, 6, 0, .null, []) := rfl
set_option maxRecDepth 100000 in
theorem i132_94 : INS 132 94 = some (9, 3, 125, 0, .null, []) := rfl
set_option maxRecDepth 100000 in
theorem i132_97 : INS 132 97 = some (0, 1, 2, 0, .null, []) := rfl
set_option maxRecDepth 100000 in
theorem i132_98 : INS 132 98 = some (2, 1, 0, 0, .int 5, []) := rfl
set_option maxRecDepth 100000 in
theorem i132_99 : INS 132 99 = some (10, 3, 121, 1, .null, []) := rfl
set_option maxRecDepth 100000 in
theorem i132_102 : INS 132 102 = some (0, 2, 4, 0, .null, []) := rfl
set_option maxRecDepth 100000 in
theorem i132_104 : INS 132 104 = some (24, 3, 126, 2, .null, []) := rfl
set_option maxRecDepth 100000 in
theorem i132_107 : INS 132 107 = some (9, 3, 125, 0, .null, []) := rfl
set_option maxRecDepth 100000 in
theorem i132_110 : INS 132 110 = some (0, 2, 5, 0, .null, []) := rfl
set_option maxRecDepth 100000 in
theorem i132_112 : INS 132 112 = some (2, 1, 0, 0, .int 1, []) := rfl
set_option maxRecDepth 100000 in
theorem i132_113 : INS 132 113 = some (2, 2, 0, 0, .int 60, []) := rfl
set_option maxRecDepth 100000 in
theorem i132_115 : INS 132 115 = some (24, 3, 123, 2, .null, []) := rfl
set_option maxRecDepth 100000 in
theorem i132_118 : INS 132 118 = some (9, 3, 125, 0, .null, []) := rfl
set_option maxRecDepth 100000 in
theorem i132_121 : INS 132 121 = some (2, 1, 0, 0, .int 1, []) := rfl
set_option maxRecDepth 100000 in
theorem i132_122 : INS 132 122 = some (12, 3, 126, 0, .null, []) := rfl
set_option maxRecDepth 100000 in
theorem i132_125 : INS 132 125 = some (2, 1, 0, 0, .int 0, []) := rfl
set_option maxRecDepth 100000 in
theorem i132_126 : INS 132 126 = some (1, 2, 6, 0, .null, []) := rfl
set_option maxRecDepth 100000 in
theorem i132_128 : INS 132 128 = some (0, 2, 6, 0, .null, []) := rfl
set_option maxRecDepth 100000 in
theorem i132_130 : INS 132 130 = some (9, 3, 146, 0, .null, []) := rfl
set_option maxRecDepth 100000 in
theorem i132_133 : INS 132 133 = some (0, 1, 0, 2, .null, []) := rfl
set_option maxRecDepth 100000 in
theorem i132_134 : INS 132 134 = some (16, 3, 11, 8, .null, []) := rfl
set_option maxRecDepth 100000 in
theorem i132_137 : INS 132 137 = some (0, 1, 1, 0, .null, []) := rfl
set_option maxRecDepth 100000 in
theorem i132_138 : INS 132 138 = some (18, 1, 20, 0, .null, []) := rfl
set_option maxRecDepth 100000 in
theorem i132_139 : INS 132 139 = some (9, 3, 146, 1, .null, []) := rfl
set_option maxRecDepth 100000 in
theorem i132_142 : INS 132 142 = some (2, 1, 0, 0, .int 1, []) := rfl
set_option maxRecDepth 100000 in
theorem i132_143 : INS 132 143 = some (12, 3, 148, 0, .null, []) := rfl
set_option maxRecDepth 100000 in
theorem i132_146 : INS 132 146 = some (2, 2, 0, 0, .int (-6), []) := rfl
set_option maxRecDepth 100000 in
theorem i132_148 : INS 132 148 = some (27, 1, 0, 0, .null, []) := rfl
set_option maxRecDepth 100000 in
theorem i133_0 : INS 133 0 = some (0, 1, 0, 2, .null, []) := rfl
set_option maxRecDepth 100000 in
theorem i133_1 : INS 133 1 = some (16, 3, 11, 8, .null, []) := rfl
set_option maxRecDepth 100000 in
theorem i133_4 : INS 133 4 = some (0, 1, 1, 0, .null, []) := rfl
set_option maxRecDepth 100000 in
theorem i133_5 : INS 133 5 = some (0, 1, 2, 0, .null, []) := rfl
set_option maxRecDepth 100000 in
theorem i133_6 : INS 133 6 = some (19, 1, 20, 0, .null, []) := rfl
set_option maxRecDepth 100000 in
theorem i133_7 : INS 133 7 = some (0, 1, 0, 2, .null, []) := rfl
set_option maxRecDepth 100000 in
theorem i133_8 : INS 133 8 = some (16, 3, 11, 9, .null, []) := rfl
set_option maxRecDepth 100000 in
theorem i133_11 : INS 133 11 = some (0, 1, 1, 0, .null, []) := rfl
set_option maxRecDepth 100000 in
theorem i133_12 : INS 133 12 = some (0, 1, 2, 0, .null, []) := rfl
set_option maxRecDepth 100000 in
theorem i133_13 : INS 133 13 = some (2, 2, 0, 0, .int 7, []) := rfl
set_option maxRecDepth 100000 in
theorem i133_15 : INS 133 15 = some (10, 3, 22, 1, .null, []) := rfl
set_option maxRecDepth 100000 in
theorem i133_18 : INS 133 18 = some (2, 1, 0, 0, .int 0, []) := rfl
set_option maxRecDepth 100000 in
theorem i133_19 : INS 133 19 = some (12, 3, 23, 0, .null, []) := rfl
set_option maxRecDepth 100000 in
theorem i133_22 : INS 133 22 = some (0, 1, 3, 0, .null, []) := rfl
set_option maxRecDepth 100000 in
theorem i133_23 : INS 133 23 = some (19, 1, 20, 0, .null, []) := rfl
set_option maxRecDepth 100000 in
theorem i133_24 : INS 133 24 = some (0, 1, 0, 2, .null, []) := rfl
set_option maxRecDepth 100000 in
theorem i133_25 : INS 133 25 = some (16, 3, 11, 10, .null, []) := rfl
set_option maxRecDepth 100000 in
theorem i133_28 : INS 133 28 = some (0, 1, 1, 0, .null, []) := rfl
set_option maxRecDepth 100000 in
theorem i133_29 : INS 133 29 = some (0, 1, 2, 0, .null, []) := rfl
set_option maxRecDepth 100000 in
theorem i133_30 : INS 133 30 = some (2, 1, 0, 0, .int 5, []) := rfl
set_option maxRecDepth 100000 in
theorem i133_31 : INS 133 31 = some (10, 3, 40, 0, .null, []) := rfl
set_option maxRecDepth 100000 in
theorem i133_34 : INS 133 34 = some (0, 1, 2, 0, .null, []) := rfl
set_option maxRecDepth 100000 in
theorem i133_35 : INS 133 35 = some (2, 2, 0, 0, .int 6, []) := rfl
set_option maxRecDepth 100000 in
theorem i133_37 : INS 133 37 = some (10, 3, 45, 1, .null, []) := rfl
set_option maxRecDepth 100000 in
theorem i133_40 : INS 133 40 = some (0, 2, 4, 0, .null, []) := rfl
set_option maxRecDepth 100000 in
theorem i133_42 : INS 133 42 = some (12, 3, 46, 0, .null, []) := rfl
set_option maxRecDepth 100000 in
theorem i133_45 : INS 133 45 = some (2, 1, 0, 0, .int 0, []) := rfl
set_option maxRecDepth 100000 in
theorem i133_46 : INS 133 46 = some (19, 1, 20, 0, .null, []) := rfl
set_option maxRecDepth 100000 in
theorem i133_47 : INS 133 47 = some (0, 1, 0, 2, .null, []) := rfl
set_option maxRecDepth 100000 in
theorem i133_48 : INS 133 48 = some (16, 3, 11, 11, .null, []) := rfl
set_option maxRecDepth 100000 in
theorem i133_51 : INS 133 51 = some (0, 1, 1, 0, .null, []) := rfl
set_option maxRecDepth 100000 in
theorem i133_52 : INS 133 52 = some (0, 1, 2, 0, .null, []) := rfl
set_option maxRecDepth 100000 in
theorem i133_53 : INS 133 53 = some (2, 1, 0, 0, .int 5, []) := rfl
set_option maxRecDepth 100000 in
theorem i133_54 : INS 133 54 = some (10, 3, 62, 1, .null, []) := rfl
set_option maxRecDepth 100000 in
theorem i133_57 : INS 133 57 = some (0, 2, 5, 0, .null, []) := rfl
set_option maxRecDepth 100000 in
theorem i133_59 : INS 133 59 = some (12, 3, 63, 0, .null, []) := rfl
set_option maxRecDepth 100000 in
theorem i133_62 : INS 133 62 = some (2, 1, 0, 0, .int 0, []) := rfl
set_option maxRecDepth 100000 in
theorem i133_63 : INS 133 63 = some (19, 1, 20, 0, .null, []) := rfl
set_option maxRecDepth 100000 in
theorem i133_64 : INS 133 64 = some (0, 1, 0, 2, .null, []) := rfl
set_option maxRecDepth 100000 in
theorem i133_65 : INS 133 65 = some (16, 3, 11, 12, .null, []) := rfl
set_option maxRecDepth 100000 in
theorem i133_68 : INS 133 68 = some (0, 1, 1, 0, .null, []) := rfl
set_option maxRecDepth 100000 in
theorem i133_69 : INS 133 69 = some (2, 1, 0, 0, .int 0, []) := rfl
set_option maxRecDepth 100000 in
theorem i133_70 : INS 133 70 = some (19, 1, 20, 0, .null, []) := rfl
set_option maxRecDepth 100000 in
theorem i133_71 : INS 133 71 = some (0, 1, 0, 2, .null, []) := rfl
set_option maxRecDepth 100000 in
theorem i133_72 : INS 133 72 = some (16, 3, 11, 13, .null, []) := rfl
set_option maxRecDepth 100000 in
theorem i133_75 : INS 133 75 = some (0, 1, 1, 0, .null, []) := rfl
set_option maxRecDepth 100000 in
theorem i133_76 : INS 133 76 = some (2, 1, 0, 0, .int 0, []) := rfl
set_option maxRecDepth 100000 in
theorem i133_77 : INS 133 77 = some (19, 1, 20, 0, .null, []) := rfl
set_option maxRecDepth 100000 in
theorem i133_78 : INS 133 78 = some (0, 1, 0, 2, .null, []) := rfl
set_option maxRecDepth 100000 in
theorem i133_79 : INS 133 79 = some (16, 3, 11, 16, .null, []) := rfl
set_option maxRecDepth 100000 in
theorem i133_82 : INS 133 82 = some (0, 1, 1, 0, .null, []) := rfl
set_option maxRecDepth 100000 in
theorem i133_83 : INS 133 83 = some (2, 1, 0, 0, .int 0, []) := rfl
set_option maxRecDepth 100000 in
theorem i133_84 : INS 133 84 = some (19, 1, 20, 0, .null, []) := rfl
set_option maxRecDepth 100000 in
theorem i133_85 : INS 133 85 = some (0, 1, 0, 2, .null, []) := rfl
set_option maxRecDepth 100000 in
theorem i133_86 : INS 133 86 = some (16, 3, 11, 17, .null, []) := rfl
set_option maxRecDepth 100000 in
theorem i133_89 : INS 133 89 = some (0, 1, 1, 0, .null, []) := rfl
set_option maxRecDepth 100000 in
theorem i133_90 : INS 133 90 = some (2, 1, 0, 0, .int 0, []) := rfl
set_option maxRecDepth 100000 in
theorem i133_91 : INS 133 91 = some (19, 1, 20, 0, .null, []) := rfl
set_option maxRecDepth 100000 in
theorem i133_92 : INS 133 92 = some (0, 1, 0, 2, .null, []) := rfl
set_option maxRecDepth 100000 in
theorem i133_93 : INS 133 93 = some (16, 3, 11, 18, .null, []) := rfl
set_option maxRecDepth 100000 in
theorem i133_96 : INS 133 96 = some (0, 1, 1, 0, .null, []) := rfl
set_option maxRecDepth 100000 in
theorem i133_97 : INS 133 97 = some (2, 1, 0, 0, .int 0, []) := rfl
set_option maxRecDepth 100000 in
theorem i133_98 : INS 133 98 = some (19, 1, 20, 0, .null, []) := rfl
set_option maxRecDepth 100000 in
theorem i133_99 : INS 133 99 = some (0, 1, 0, 2, .null, []) := rfl
set_option maxRecDepth 100000 in
theorem i133_100 : INS 133 100 = some (16, 3, 11, 19, .null, []) := rfl
set_option maxRecDepth 100000 in
theorem i133_103 : INS 133 103 = some (0, 1, 1, 0, .null, []) := rfl
set_option maxRecDepth 100000 in
theorem i133_104 : INS 133 104 = some (2, 1, 0, 0, .int 0, []) := rfl
set_option maxRecDepth 100000 in
theorem i133_105 : INS 133 105 = some (19, 1, 20, 0, .null, []) := rfl
set_option maxRecDepth 100000 in
theorem i133_106 : INS 133 106 = some (0, 1, 0, 2, .null, []) := rfl
set_option maxRecDepth 100000 in
theorem i133_107 : INS 133 107 = some (16, 3, 11, 20, .null, []) := rfl
set_option maxRecDepth 100000 in
theorem i133_110 : INS 133 110 = some (0, 1, 1, 0, .null, []) := rfl
set_option maxRecDepth 100000 in
theorem i133_111 : INS 133 111 = some (2, 1, 0, 0, .int 0, []) := rfl
set_option maxRecDepth 100000 in
theorem i133_112 : INS 133 112 = some (19, 1, 22, 0, .null, []) := rfl
set_option maxRecDepth 100000 in
theorem i133_113 : INS 133 113 = some (0, 1, 0, 2, .null, []) := rfl
set_option maxRecDepth 100000 in
theorem i133_114 : INS 133 114 = some (16, 3, 11, 21, .null, []) := rfl
set_option maxRecDepth 100000 in
theorem i133_117 : INS 133 117 = some (2, 1, 0, 0, .int 2, []) := rfl
set_option maxRecDepth 100000 in
theorem i133_118 : INS 133 118 = some (0, 1, 1, 0, .null, []) := rfl
set_option maxRecDepth 100000 in
theorem i133_119 : INS 133 119 = some (3, 1, 2, 0, .null, []) := rfl
set_option maxRecDepth 100000 in
theorem i133_120 : INS 133 120 = some (2, 1, 0, 0, .int 0, []) := rfl
set_option maxRecDepth 100000 in
theorem i133_121 : INS 133 121 = some (19, 1, 20, 0, .null, []) := rfl
set_option maxRecDepth 100000 in
theorem i133_122 : INS 133 122 = some (0, 1, 0, 2, .null, []) := rfl
set_option maxRecDepth 100000 in
theorem i133_123 : INS 133 123 = some (16, 3, 11, 21, .null, []) := rfl
set_option maxRecDepth 100000 in
theorem i133_126 : INS 133 126 = some (2, 1, 0, 0, .int 2, []) := rfl
set_option maxRecDepth 100000 in
theorem i133_127 : INS 133 127 = some (0, 1, 1, 0, .null, []) := rfl
set_option maxRecDepth 100000 in
theorem i133_128 : INS 133 128 = some (3, 1, 2, 0, .null, []) := rfl
set_option maxRecDepth 100000 in
theorem i133_129 : INS 133 129 = some (2, 1, 0, 0, .int 1, []) := rfl
set_option maxRecDepth 100000 in
theorem i133_130 : INS 133 130 = some (3, 1, 0, 0, .null, []) := rfl
set_option maxRecDepth 100000 in
theorem i133_131 : INS 133 131 = some (2, 1, 0, 0, .int 0, []) := rfl
set_option maxRecDepth 100000 in
theorem i133_132 : INS 133 132 = some (19, 1, 20, 0, .null, []) := rfl
set_option maxRecDepth 100000 in
theorem i133_133 : INS 133 133 = some (0, 1, 0, 2, .null, []) := rfl
set_option maxRecDepth 100000 in
theorem i133_134 : INS 133 134 = some (16, 3, 11, 22, .null, []) := rfl
set_option maxRecDepth 100000 in
theorem i133_137 : INS 133 137 = some (0, 1, 1, 0, .null, []) := rfl
set_option maxRecDepth 100000 in
theorem i133_138 : INS 133 138 = some (2, 1, 0, 0, .int 3, []) := rfl
set_option maxRecDepth 100000 in
theorem i133_139 : INS 133 139 = some (19, 1, 20, 0, .null, []) := rfl
set_option maxRecDepth 100000 in
theorem i133_140 : INS 133 140 = some (0, 1, 0, 2, .null, []) := rfl
set_option maxRecDepth 100000 in
theorem i133_141 : INS 133 141 = some (16, 3, 11, 23, .null, []) := rfl
set_option maxRecDepth 100000 in
theorem i133_144 : INS 133 144 = some (0, 1, 1, 0, .null, []) := rfl
set_option maxRecDepth 100000 in
theorem i133_145 : INS 133 145 = some (2, 1, 0, 0, .int 3, []) := rfl
set_option maxRecDepth 100000 in
theorem i133_146 : INS 133 146 = some (19, 1, 20, 0, .null, []) := rfl
set_option maxRecDepth 100000 in
theorem i133_147 : INS 133 147 = some (27, 1, 3, 0, .null, []) := rfl
set_option maxRecDepth 100000 in
theorem i134_0 : INS 134 0 = some (0, 1, 0, 2, .null, []) := rfl
set_option maxRecDepth 100000 in
theorem i134_1 : INS 134 1 = some (0, 1, 1, 0, .null, []) := rfl
set_option maxRecDepth 100000 in
theorem i134_2 : INS 134 2 = some (0, 1, 2, 0, .null, []) := rfl
set_option maxRecDepth 100000 in
theorem i134_3 : INS 134 3 = some (0, 1, 3, 0, .null, []) := rfl
set_option maxRecDepth 100000 in
theorem i134_4 : INS 134 4 = some (0, 2, 4, 0, .null, []) := rfl
set_option maxRecDepth 100000 in
theorem i134_6 : INS 134 6 = some (0, 2, 5, 0, .null, []) := rfl
set_option maxRecDepth 100000 in
theorem i134_8 : INS 134 8 = some (24, 3, 132, 0, .null, []) := rfl
set_option maxRecDepth 100000 in
theorem i134_11 : INS 134 11 = some (1, 2, 6, 0, .null, []) := rfl
set_option maxRecDepth 100000 in
theorem i134_13 : INS 134 13 = some (0, 2, 6, 0, .null, []) := rfl
set_option maxRecDepth 100000 in
theorem i134_15 : INS 134 15 = some (9, 3, 25, 3, .null, []) := rfl
set_option maxRecDepth 100000 in
theorem i134_18 : INS 134 18 = some (0, 1, 0, 2, .null, []) := rfl
set_option maxRecDepth 100000 in
theorem i134_19 : INS 134 19 = some (0, 2, 6, 0, .null, []) := rfl
set_option maxRecDepth 100000 in
theorem i134_21 : INS 134 21 = some (24, 3, 124, 0, .null, []) := rfl
set_option maxRecDepth 100000 in
theorem i134_24 : INS 134 24 = some (27, 1, 0, 0, .null, []) := rfl
set_option maxRecDepth 100000 in
theorem i134_25 : INS 134 25 = some (0, 1, 0, 2, .null, []) := rfl
set_option maxRecDepth 100000 in
theorem i134_26 : INS 134 26 = some (0, 1, 1, 0, .null, []) := rfl
set_option maxRecDepth 100000 in
theorem i134_27 : INS 134 27 = some (0, 1, 2, 0, .null, []) := rfl
set_option maxRecDepth 100000 in
theorem i134_28 : INS 134 28 = some (0, 1, 3, 0, .null, []) := rfl
set_option maxRecDepth 100000 in
theorem i134_29 : INS 134 29 = some (0, 2, 4, 0, .null, []) := rfl
set_option maxRecDepth 100000 in
theorem i134_31 : INS 134 31 = some (0, 2, 5, 0, .null, []) := rfl
set_option maxRecDepth 100000 in
theorem i134_33 : INS 134 33 = some (24, 3, 133, 0, .null, []) := rfl
set_option maxRecDepth 100000 in
theorem i134_36 : INS 134 36 = some (2, 1, 0, 0, .int 1, []) := rfl
set_option maxRecDepth 100000 in
theorem i134_37 : INS 134 37 = some (27, 1, 0, 0, .null, []) := rfl
set_option maxRecDepth 100000 in
theorem i135_0 : INS 135 0 = some (0, 1, 1, 0, .null, []) := rfl
set_option maxRecDepth 100000 in
theorem i135_1 : INS 135 1 = some (24, 3, 125, 2, .null, []) := rfl
set_option maxRecDepth 100000 in
theorem i135_4 : INS 135 4 = some (9, 3, 13, 1, .null, []) := rfl
set_option maxRecDepth 100000 in
theorem i135_7 : INS 135 7 = some (0, 1, 0, 2, .null, []) := rfl
set_option maxRecDepth 100000 in
theorem i135_8 : INS 135 8 = some (2, 1, 0, 0, .int (-1), []) := rfl
set_option maxRecDepth 100000 in
theorem i135_9 : INS 135 9 = some (24, 3, 124, 0, .null, []) := rfl
set_option maxRecDepth 100000 in
theorem i135_12 : INS 135 12 = some (27, 1, 0, 0, .null, []) := rfl
set_option maxRecDepth 100000 in
theorem i135_13 : INS 135 13 = some (0, 1, 0, 2, .null, []) := rfl
set_option maxRecDepth 100000 in
theorem i135_14 : INS 135 14 = some (16, 3, 11, 8, .null, []) := rfl
set_option maxRecDepth 100000 in
theorem i135_17 : INS 135 17 = some (0, 1, 1, 0, .null, []) := rfl
set_option maxRecDepth 100000 in
theorem i135_18 : INS 135 18 = some (18, 1, 20, 0, .null, []) := rfl
set_option maxRecDepth 100000 in
theorem i135_19 : INS 135 19 = some (1, 1, 2, 0, .null, []) := rfl
set_option maxRecDepth 100000 in
theorem i135_20 : INS 135 20 = some (0, 1, 0, 2, .null, []) := rfl
set_option maxRecDepth 100000 in
theorem i135_21 : INS 135 21 = some (16, 3, 11, 8, .null, []) := rfl
set_option maxRecDepth 100000 in
theorem i135_24 : INS 135 24 = some (0, 1, 1, 0, .null, []) := rfl
set_option maxRecDepth 100000 in
theorem i135_25 : INS 135 25 = some (2, 1, 0, 0, .int 0, []) := rfl
set_option maxRecDepth 100000 in
theorem i135_26 : INS 135 26 = some (19, 1, 20, 0, .null, []) := rfl
set_option maxRecDepth 100000 in
theorem i135_27 : INS 135 27 = some (0, 1, 0, 2, .null, []) := rfl
set_option maxRecDepth 100000 in
theorem i135_28 : INS 135 28 = some (16, 3, 11, 16, .null, []) := rfl
set_option maxRecDepth 100000 in
theorem i135_31 : INS 135 31 = some (0, 1, 1, 0, .null, []) := rfl
set_option maxRecDepth 100000 in
theorem i135_32 : INS 135 32 = some (2, 1, 0, 0, .int 0, []) := rfl
set_option maxRecDepth 100000 in
theorem i135_33 : INS 135 33 = some (19, 1, 20, 0, .null, []) := rfl
set_option maxRecDepth 100000 in
theorem i135_34 : INS 135 34 = some (0, 1, 2, 0, .null, []) := rfl
set_option maxRecDepth 100000 in
theorem i135_35 : INS 135 35 = some (27, 1, 0, 0, .null, []) := rfl
set_option maxRecDepth 100000 in
theorem i137_0 : INS 137 0 = some (0, 1, 0, 2, .null, []) := rfl
set_option maxRecDepth 100000 in
theorem i137_1 : INS 137 1 = some (16, 3, 11, 24, .null, []) := rfl
set_option maxRecDepth 100000 in
theorem i137_4 : INS 137 4 = some (0, 1, 1, 0, .null, []) := rfl
set_option maxRecDepth 100000 in
theorem i137_5 : INS 137 5 = some (18, 1, 20, 0, .null, []) := rfl
set_option maxRecDepth 100000 in
theorem i137_6 : INS 137 6 = some (2, 2, 0, 0, .int 100, []) := rfl
set_option maxRecDepth 100000 in
theorem i137_8 : INS 137 8 = some (10, 3, 15, 2, .null, []) := rfl
set_option maxRecDepth 100000 in
theorem i137_11 : INS 137 11 = some (2, 1, 0, 0, .int 1, []) := rfl
set_option maxRecDepth 100000 in
theorem i137_12 : INS 137 12 = some (12, 3, 16, 0, .null, []) := rfl
set_option maxRecDepth 100000 in
theorem i137_15 : INS 137 15 = some (2, 1, 0, 0, .int 0, []) := rfl
set_option maxRecDepth 100000 in
theorem i137_16 : INS 137 16 = some (27, 1, 0, 0, .null, []) := rfl
set_option maxRecDepth 100000 in
theorem i139_0 : INS 139 0 = some (0, 1, 1, 0, .null, []) := rfl
set_option maxRecDepth 100000 in
theorem i139_1 : INS 139 1 = some (24, 3, 136, 2, .null, []) := rfl
set_option maxRecDepth 100000 in
theorem i139_4 : INS 139 4 = some (9, 3, 13, 1, .null, []) := rfl
set_option maxRecDepth 100000 in
theorem i139_7 : INS 139 7 = some (0, 1, 0, 2, .null, []) := rfl
set_option maxRecDepth 100000 in
theorem i139_8 : INS 139 8 = some (2, 1, 0, 0, .int (-1), []) := rfl
set_option maxRecDepth 100000 in
theorem i139_9 : INS 139 9 = some (24, 3, 124, 0, .null, []) := rfl
set_option maxRecDepth 100000 in
theorem i139_12 : INS 139 12 = some (27, 1, 0, 0, .null, []) := rfl
set_option maxRecDepth 100000 in
theorem i139_13 : INS 139 13 = some (0, 1, 3, 0, .null, []) := rfl
set_option maxRecDepth 100000 in
theorem i139_14 : INS 139 14 = some (9, 3, 24, 3, .null, []) := rfl
set_option maxRecDepth 100000 in
theorem i139_17 : INS 139 17 = some (0, 1, 0, 2, .null, []) := rfl
set_option maxRecDepth 100000 in
theorem i139_18 : INS 139 18 = some (2, 2, 0, 0, .int (-4), []) := rfl
set_option maxRecDepth 100000 in
theorem i139_20 : INS 139 20 = some (24, 3, 124, 0, .null, []) := rfl
set_option maxRecDepth 100000 in
theorem i139_23 : INS 139 23 = some (27, 1, 0, 0, .null, []) := rfl
set_option maxRecDepth 100000 in
theorem i139_24 : INS 139 24 = some (0, 1, 2, 0, .null, []) := rfl
set_option maxRecDepth 100000 in
theorem i139_25 : INS 139 25 = some (2, 1, 0, 0, .int 0, []) := rfl
set_option maxRecDepth 100000 in
theorem i139_26 : INS 139 26 = some (2, 1, 0, 0, .int 3, []) := rfl
set_option maxRecDepth 100000 in
theorem i139_27 : INS 139 27 = some (24, 3, 123, 2, .null, []) := rfl
set_option maxRecDepth 100000 in
theorem i139_30 : INS 139 30 = some (9, 3, 40, 1, .null, []) := rfl
set_option maxRecDepth 100000 in
theorem i139_33 : INS 139 33 = some (0, 1, 0, 2, .null, []) := rfl
set_option maxRecDepth 100000 in
theorem i139_34 : INS 139 34 = some (2, 2, 0, 0, .int (-6), []) := rfl
set_option maxRecDepth 100000 in
theorem i139_36 : INS 139 36 = some (24, 3, 124, 0, .null, []) := rfl
set_option maxRecDepth 100000 in
theorem i139_39 : INS 139 39 = some (27, 1, 0, 0, .null, []) := rfl
set_option maxRecDepth 100000 in
theorem i139_40 : INS 139 40 = some (0, 1, 3, 0, .null, []) := rfl
set_option maxRecDepth 100000 in
theorem i139_41 : INS 139 41 = some (2, 2, 0, 0, .int 100, []) := rfl
set_option maxRecDepth 100000 in
theorem i139_43 : INS 139 43 = some (10, 3, 53, 5, .null, []) := rfl
set_option maxRecDepth 100000 in
theorem i139_46 : INS 139 46 = some (0, 1, 0, 2, .null, []) := rfl
set_option maxRecDepth 100000 in
theorem i139_47 : INS 139 47 = some (2, 2, 0, 0, .int (-7), []) := rfl
set_option maxRecDepth 100000 in
theorem i139_49 : INS 139 49 = some (24, 3, 124, 0, .null, []) := rfl
set_option maxRecDepth 100000 in
theorem i139_52 : INS 139 52 = some (27, 1, 0, 0, .null, []) := rfl
set_option maxRecDepth 100000 in
theorem i139_53 : INS 139 53 = some (0, 1, 0, 2, .null, []) := rfl
set_option maxRecDepth 100000 in
theorem i139_54 : INS 139 54 = some (16, 3, 11, 24, .null, []) := rfl
set_option maxRecDepth 100000 in
theorem i139_57 : INS 139 57 = some (0, 1, 1, 0, .null, []) := rfl
set_option maxRecDepth 100000 in
theorem i139_58 : INS 139 58 = some (2, 2, 0, 0, .int 100, []) := rfl
set_option maxRecDepth 100000 in
theorem i139_60 : INS 139 60 = some (0, 1, 2, 0, .null, []) := rfl
set_option maxRecDepth 100000 in
theorem i139_61 : INS 139 61 = some (3, 1, 0, 0, .null, []) := rfl
set_option maxRecDepth 100000 in
theorem i139_62 : INS 139 62 = some (19, 1, 20, 0, .null, []) := rfl
set_option maxRecDepth 100000 in
theorem i139_63 : INS 139 63 = some (0, 1, 0, 2, .null, []) := rfl
set_option maxRecDepth 100000 in
theorem i139_64 : INS 139 64 = some (16, 3, 11, 25, .null, []) := rfl
set_option maxRecDepth 100000 in
theorem i139_67 : INS 139 67 = some (0, 1, 1, 0, .null, []) := rfl
set_option maxRecDepth 100000 in
theorem i139_68 : INS 139 68 = some (0, 1, 3, 0, .null, []) := rfl
set_option maxRecDepth 100000 in
theorem i139_69 : INS 139 69 = some (19, 1, 20, 0, .null, []) := rfl
set_option maxRecDepth 100000 in
theorem i139_70 : INS 139 70 = some (2, 1, 0, 0, .int 0, []) := rfl
set_option maxRecDepth 100000 in
theorem i139_71 : INS 139 71 = some (1, 2, 4, 0, .null, []) := rfl
set_option maxRecDepth 100000 in
theorem i139_73 : INS 139 73 = some (0, 2, 4, 0, .null, []) := rfl
set_option maxRecDepth 100000 in
theorem i139_75 : INS 139 75 = some (2, 2, 0, 0, .int 100, []) := rfl
set_option maxRecDepth 100000 in
theorem i139_77 : INS 139 77 = some (10, 3, 99, 3, .null, []) := rfl
set_option maxRecDepth 100000 in
theorem i139_80 : INS 139 80 = some (0, 1, 0, 2, .null, []) := rfl
set_option maxRecDepth 100000 in
theorem i139_81 : INS 139 81 = some (16, 3, 11, 26, .null, []) := rfl
set_option maxRecDepth 100000 in
theorem i139_84 : INS 139 84 = some (2, 2, 0, 0, .int 100, []) := rfl
set_option maxRecDepth 100000 in
theorem i139_86 : INS 139 86 = some (0, 1, 1, 0, .null, []) := rfl
set_option maxRecDepth 100000 in
theorem i139_87 : INS 139 87 = some (3, 1, 2, 0, .null, []) := rfl
set_option maxRecDepth 100000 in
theorem i139_88 : INS 139 88 = some (0, 2, 4, 0, .null, []) := rfl
set_option maxRecDepth 100000 in
theorem i139_90 : INS 139 90 = some (3, 1, 0, 0, .null, []) := rfl
set_option maxRecDepth 100000 in
theorem i139_91 : INS 139 91 = some (2, 1, 0, 0, .long 0, []) := rfl
set_option maxRecDepth 100000 in
theorem i139_92 : INS 139 92 = some (19, 1, 21, 0, .null, []) := rfl
set_option maxRecDepth 100000 in
theorem i139_93 : INS 139 93 = some (15, 3, 4, 0, .int 1, []) := rfl
set_option maxRecDepth 100000 in
theorem i139_96 : INS 139 96 = some (12, 3, 73, 0, .null, []) := rfl
set_option maxRecDepth 100000 in
theorem i139_99 : INS 139 99 = some (2, 1, 0, 0, .int 1, []) := rfl
set_option maxRecDepth 100000 in
theorem i139_100 : INS 139 100 = some (27, 1, 0, 0, .null, []) := rfl
set_option maxRecDepth 100000 in
theorem i140_0 : INS 140 0 = some (0, 1, 1, 0, .null, []) := rfl
set_option maxRecDepth 100000 in
theorem i140_1 : INS 140 1 = some (24, 3, 136, 2, .null, []) := rfl
set_option maxRecDepth 100000 in
theorem i140_4 : INS 140 4 = some (9, 3, 11, 1, .null, []) := rfl
set_option maxRecDepth 100000 in
theorem i140_7 : INS 140 7 = some (2, 1, 0, 0, .int (-1), []) := rfl
set_option maxRecDepth 100000 in
theorem i140_8 : INS 140 8 = some (12, 3, 39, 0, .null, []) := rfl
set_option maxRecDepth 100000 in
theorem i140_11 : INS 140 11 = some (0, 1, 0, 2, .null, []) := rfl
set_option maxRecDepth 100000 in
theorem i140_12 : INS 140 12 = some (0, 1, 1, 0, .null, []) := rfl
set_option maxRecDepth 100000 in
theorem i140_13 : INS 140 13 = some (24, 3, 137, 0, .null, []) := rfl
set_option maxRecDepth 100000 in
theorem i140_16 : INS 140 16 = some (9, 3, 23, 0, .null, []) := rfl
set_option maxRecDepth 100000 in
theorem i140_19 : INS 140 19 = some (2, 1, 0, 0, .int 0, []) := rfl
set_option maxRecDepth 100000 in
theorem i140_20 : INS 140 20 = some (12, 3, 39, 0, .null, []) := rfl
set_option maxRecDepth 100000 in
theorem i140_23 : INS 140 23 = some (0, 1, 0, 2, .null, []) := rfl
set_option maxRecDepth 100000 in
theorem i140_24 : INS 140 24 = some (16, 3, 11, 24, .null, []) := rfl
set_option maxRecDepth 100000 in
theorem i140_27 : INS 140 27 = some (0, 1, 1, 0, .null, []) := rfl
set_option maxRecDepth 100000 in
theorem i140_28 : INS 140 28 = some (18, 1, 20, 0, .null, []) := rfl
set_option maxRecDepth 100000 in
theorem i140_29 : INS 140 29 = some (9, 3, 37, 1, .null, []) := rfl
set_option maxRecDepth 100000 in
theorem i140_32 : INS 140 32 = some (2, 2, 0, 0, .int (-2), []) := rfl
set_option maxRecDepth 100000 in
theorem i140_34 : INS 140 34 = some (12, 3, 39, 0, .null, []) := rfl
set_option maxRecDepth 100000 in
theorem i140_37 : INS 140 37 = some (2, 2, 0, 0, .int (-3), []) := rfl
set_option maxRecDepth 100000 in
theorem i140_39 : INS 140 39 = some (27, 1, 0, 0, .null, []) := rfl
set_option maxRecDepth 100000 in
theorem i141_0 : INS 141 0 = some (0, 1, 0, 2, .null, []) := rfl
set_option maxRecDepth 100000 in
theorem i141_1 : INS 141 1 = some (0, 1, 1, 0, .null, []) := rfl
set_option maxRecDepth 100000 in
theorem i141_2 : INS 141 2 = some (24, 3, 140, 0, .null, []) := rfl
set_option maxRecDepth 100000 in
theorem i141_5 : INS 141 5 = some (1, 2, 5, 0, .null, []) := rfl
set_option maxRecDepth 100000 in
theorem i141_7 : INS 141 7 = some (0, 2, 5, 0, .null, []) := rfl
set_option maxRecDepth 100000 in
theorem i141_9 : INS 141 9 = some (9, 3, 19, 0, .null, []) := rfl
set_option maxRecDepth 100000 in
theorem i141_12 : INS 141 12 = some (0, 1, 0, 2, .null, []) := rfl
set_option maxRecDepth 100000 in
theorem i141_13 : INS 141 13 = some (0, 2, 5, 0, .null, []) := rfl
set_option maxRecDepth 100000 in
theorem i141_15 : INS 141 15 = some (24, 3, 124, 0, .null, []) := rfl
set_option maxRecDepth 100000 in
theorem i141_18 : INS 141 18 = some (27, 1, 0, 0, .null, []) := rfl
set_option maxRecDepth 100000 in
theorem i141_19 : INS 141 19 = some (0, 1, 2, 0, .null, []) := rfl
set_option maxRecDepth 100000 in
theorem i141_20 : INS 141 20 = some (2, 1, 0, 0, .int 0, []) := rfl
set_option maxRecDepth 100000 in
theorem i141_21 : INS 141 21 = some (0, 1, 0, 2, .null, []) := rfl
set_option maxRecDepth 100000 in
theorem i141_22 : INS 141 22 = some (16, 3, 11, 25, .null, []) := rfl
set_option maxRecDepth 100000 in
theorem i141_25 : INS 141 25 = some (0, 1, 1, 0, .null, []) := rfl
set_option maxRecDepth 100000 in
theorem i141_26 : INS 141 26 = some (18, 1, 20, 0, .null, []) := rfl
set_option maxRecDepth 100000 in
theorem i141_27 : INS 141 27 = some (2, 1, 0, 0, .int 1, []) := rfl
set_option maxRecDepth 100000 in
theorem i141_28 : INS 141 28 = some (3, 1, 1, 0, .null, []) := rfl
set_option maxRecDepth 100000 in
theorem i141_29 : INS 141 29 = some (24, 3, 123, 2, .null, []) := rfl
set_option maxRecDepth 100000 in
theorem i141_32 : INS 141 32 = some (9, 3, 42, 1, .null, []) := rfl
set_option maxRecDepth 100000 in
theorem i141_35 : INS 141 35 = some (0, 1, 0, 2, .null, []) := rfl
set_option maxRecDepth 100000 in
theorem i141_36 : INS 141 36 = some (2, 2, 0, 0, .int (-5), []) := rfl
set_option maxRecDepth 100000 in
theorem i141_38 : INS 141 38 = some (24, 3, 124, 0, .null, []) := rfl
set_option maxRecDepth 100000 in
theorem i141_41 : INS 141 41 = some (27, 1, 0, 0, .null, []) := rfl
set_option maxRecDepth 100000 in
theorem i141_42 : INS 141 42 = some (0, 1, 0, 2, .null, []) := rfl
set_option maxRecDepth 100000 in
theorem i141_43 : INS 141 43 = some (16, 3, 11, 26, .null, []) := rfl
set_option maxRecDepth 100000 in
theorem i141_46 : INS 141 46 = some (2, 2, 0, 0, .int 100, []) := rfl
set_option maxRecDepth 100000 in
theorem i141_48 : INS 141 48 = some (0, 1, 1, 0, .null, []) := rfl
set_option maxRecDepth 100000 in
theorem i141_49 : INS 141 49 = some (3, 1, 2, 0, .null, []) := rfl
set_option maxRecDepth 100000 in
theorem i141_50 : INS 141 50 = some (0, 1, 2, 0, .null, []) := rfl
set_option maxRecDepth 100000 in
theorem i141_51 : INS 141 51 = some (3, 1, 0, 0, .null, []) := rfl
set_option maxRecDepth 100000 in
theorem i141_52 : INS 141 52 = some (0, 1, 0, 2, .null, []) := rfl
set_option maxRecDepth 100000 in
theorem i141_53 : INS 141 53 = some (16, 3, 11, 24, .null, []) := rfl
set_option maxRecDepth 100000 in
theorem i141_56 : INS 141 56 = some (0, 1, 1, 0, .null, []) := rfl
set_option maxRecDepth 100000 in
theorem i141_57 : INS 141 57 = some (18, 1, 20, 0, .null, []) := rfl
set_option maxRecDepth 100000 in
theorem i141_58 : INS 141 58 = some (2, 2, 0, 0, .int 100, []) := rfl
set_option maxRecDepth 100000 in
theorem i141_60 : INS 141 60 = some (3, 1, 1, 0, .null, []) := rfl
set_option maxRecDepth 100000 in
theorem i141_61 : INS 141 61 = some (0, 1, 3, 1, .null, []) := rfl
set_option maxRecDepth 100000 in
theorem i141_62 : INS 141 62 = some (24, 3, 138, 2, .null, []) := rfl
set_option maxRecDepth 100000 in
theorem i141_65 : INS 141 65 = some (19, 1, 21, 0, .null, []) := rfl
set_option maxRecDepth 100000 in
theorem i141_66 : INS 141 66 = some (2, 1, 0, 0, .int 1, []) := rfl
set_option maxRecDepth 100000 in
theorem i141_67 : INS 141 67 = some (27, 1, 0, 0, .null, []) := rfl
set_option maxRecDepth 100000 in
theorem i142_0 : INS 142 0 = some (0, 1, 1, 0, .null, []) := rfl
set_option maxRecDepth 100000 in
theorem i142_1 : INS 142 1 = some (24, 3, 136, 2, .null, []) := rfl
set_option maxRecDepth 100000 in
theorem i142_4 : INS 142 4 = some (9, 3, 14, 0, .null, []) := rfl
set_option maxRecDepth 100000 in
theorem i142_7 : INS 142 7 = some (0, 1, 2, 0, .null, []) := rfl
set_option maxRecDepth 100000 in
theorem i142_8 : INS 142 8 = some (24, 3, 136, 2, .null, []) := rfl
set_option maxRecDepth 100000 in
theorem i142_11 : INS 142 11 = some (9, 3, 20, 1, .null, []) := rfl
set_option maxRecDepth 100000 in
theorem i142_14 : INS 142 14 = some (0, 1, 0, 2, .null, []) := rfl
set_option maxRecDepth 100000 in
theorem i142_15 : INS 142 15 = some (2, 1, 0, 0, .int (-1), []) := rfl
set_option maxRecDepth 100000 in
theorem i142_16 : INS 142 16 = some (24, 3, 124, 0, .null, []) := rfl
set_option maxRecDepth 100000 in
theorem i142_19 : INS 142 19 = some (27, 1, 0, 0, .null, []) := rfl
set_option maxRecDepth 100000 in
theorem i142_20 : INS 142 20 = some (0, 1, 0, 2, .null, []) := rfl
set_option maxRecDepth 100000 in
theorem i142_21 : INS 142 21 = some (16, 3, 11, 24, .null, []) := rfl
set_option maxRecDepth 100000 in
theorem i142_24 : INS 142 24 = some (0, 1, 1, 0, .null, []) := rfl
set_option maxRecDepth 100000 in
theorem i142_25 : INS 142 25 = some (18, 1, 20, 0, .null, []) := rfl
set_option maxRecDepth 100000 in
theorem i142_26 : INS 142 26 = some (9, 3, 69, 0, .null, []) := rfl
set_option maxRecDepth 100000 in
theorem i142_29 : INS 142 29 = some (0, 1, 0, 2, .null, []) := rfl
set_option maxRecDepth 100000 in
theorem i142_30 : INS 142 30 = some (16, 3, 11, 24, .null, []) := rfl
set_option maxRecDepth 100000 in
theorem i142_33 : INS 142 33 = some (0, 1, 2, 0, .null, []) := rfl
set_option maxRecDepth 100000 in
theorem i142_34 : INS 142 34 = some (18, 1, 20, 0, .null, []) := rfl
set_option maxRecDepth 100000 in
theorem i142_35 : INS 142 35 = some (9, 3, 69, 0, .null, []) := rfl
set_option maxRecDepth 100000 in
theorem i142_38 : INS 142 38 = some (0, 1, 0, 2, .null, []) := rfl
set_option maxRecDepth 100000 in
theorem i142_39 : INS 142 39 = some (0, 1, 1, 0, .null, []) := rfl
set_option maxRecDepth 100000 in
theorem i142_40 : INS 142 40 = some (24, 3, 137, 0, .null, []) := rfl
set_option maxRecDepth 100000 in
theorem i142_43 : INS 142 43 = some (9, 3, 76, 0, .null, []) := rfl
set_option maxRecDepth 100000 in
theorem i142_46 : INS 142 46 = some (0, 1, 0, 2, .null, []) := rfl
set_option maxRecDepth 100000 in
theorem i142_47 : INS 142 47 = some (0, 1, 2, 0, .null, []) := rfl
set_option maxRecDepth 100000 in
theorem i142_48 : INS 142 48 = some (24, 3, 137, 0, .null, []) := rfl
set_option maxRecDepth 100000 in
theorem i142_51 : INS 142 51 = some (9, 3, 76, 0, .null, []) := rfl
set_option maxRecDepth 100000 in
theorem i142_54 : INS 142 54 = some (0, 1, 0, 2, .null, []) := rfl
set_option maxRecDepth 100000 in
theorem i142_55 : INS 142 55 = some (16, 3, 11, 24, .null, []) := rfl
set_option maxRecDepth 100000 in
theorem i142_58 : INS 142 58 = some (0, 1, 1, 0, .null, []) := rfl
set_option maxRecDepth 100000 in
theorem i142_59 : INS 142 59 = some (18, 1, 20, 0, .null, []) := rfl
set_option maxRecDepth 100000 in
theorem i142_60 : INS 142 60 = some (0, 1, 0, 2, .null, []) := rfl
set_option maxRecDepth 100000 in
theorem i142_61 : INS 142 61 = some (16, 3, 11, 24, .null, []) := rfl
set_option maxRecDepth 100000 in
theorem i142_64 : INS 142 64 = some (0, 1, 2, 0, .null, []) := rfl
set_option maxRecDepth 100000 in
theorem i142_65 : INS 142 65 = some (18, 1, 20, 0, .null, []) := rfl
set_option maxRecDepth 100000 in
theorem i142_66 : INS 142 66 = some (10, 3, 76, 0, .null, []) := rfl
set_option maxRecDepth 100000 in
theorem i142_69 : INS 142 69 = some (0, 1, 0, 2, .null, []) := rfl
set_option maxRecDepth 100000 in
theorem i142_70 : INS 142 70 = some (2, 2, 0, 0, .int (-2), []) := rfl
set_option maxRecDepth 100000 in
theorem i142_72 : INS 142 72 = some (24, 3, 124, 0, .null, []) := rfl
set_option maxRecDepth 100000 in
theorem i142_75 : INS 142 75 = some (27, 1, 0, 0, .null, []) := rfl
set_option maxRecDepth 100000 in
theorem i142_76 : INS 142 76 = some (0, 1, 0, 2, .null, []) := rfl
set_option maxRecDepth 100000 in
theorem i142_77 : INS 142 77 = some (0, 1, 1, 0, .null, []) := rfl
set_option maxRecDepth 100000 in
theorem i142_78 : INS 142 78 = some (24, 3, 137, 0, .null, []) := rfl
set_option maxRecDepth 100000 in
theorem i142_81 : INS 142 81 = some (9, 3, 92, 0, .null, []) := rfl
set_option maxRecDepth 100000 in
theorem i142_84 : INS 142 84 = some (0, 1, 0, 2, .null, []) := rfl
set_option maxRecDepth 100000 in
theorem i142_85 : INS 142 85 = some (0, 1, 2, 0, .null, []) := rfl
set_option maxRecDepth 100000 in
theorem i142_86 : INS 142 86 = some (24, 3, 137, 0, .null, []) := rfl
set_option maxRecDepth 100000 in
theorem i142_89 : INS 142 89 = some (9, 3, 99, 1, .null, []) := rfl
set_option maxRecDepth 100000 in
theorem i142_92 : INS 142 92 = some (0, 1, 0, 2, .null, []) := rfl
set_option maxRecDepth 100000 in
theorem i142_93 : INS 142 93 = some (2, 2, 0, 0, .int (-3), []) := rfl
set_option maxRecDepth 100000 in
theorem i142_95 : INS 142 95 = some (24, 3, 124, 0, .null, []) := rfl
set_option maxRecDepth 100000 in
theorem i142_98 : INS 142 98 = some (27, 1, 0, 0, .null, []) := rfl
set_option maxRecDepth 100000 in
theorem i142_99 : INS 142 99 = some (0, 2, 5, 0, .null, []) := rfl
set_option maxRecDepth 100000 in
theorem i142_101 : INS 142 101 = some (9, 3, 111, 3, .null, []) := rfl
set_option maxRecDepth 100000 in
theorem i142_104 : INS 142 104 = some (0, 1, 0, 2, .null, []) := rfl
set_option maxRecDepth 100000 in
theorem i142_105 : INS 142 105 = some (2, 2, 0, 0, .int (-4), []) := rfl
set_option maxRecDepth 100000 in
theorem i142_107 : INS 142 107 = some (24, 3, 124, 0, .null, []) := rfl
set_option maxRecDepth 100000 in
theorem i142_110 : INS 142 110 = some (27, 1, 0, 0, .null, []) := rfl
set_option maxRecDepth 100000 in
theorem i142_111 : INS 142 111 = some (0, 1, 3, 0, .null, []) := rfl
set_option maxRecDepth 100000 in
theorem i142_112 : INS 142 112 = some (9, 3, 168, 2, .null, []) := rfl
set_option maxRecDepth 100000 in
theorem i142_115 : INS 142 115 = some (0, 2, 4, 0, .null, []) := rfl
set_option maxRecDepth 100000 in
theorem i142_117 : INS 142 117 = some (9, 3, 168, 2, .null, []) := rfl
set_option maxRecDepth 100000 in
theorem i142_120 : INS 142 120 = some (0, 1, 3, 0, .null, []) := rfl
set_option maxRecDepth 100000 in
theorem i142_121 : INS 142 121 = some (0, 1, 0, 2, .null, []) := rfl
set_option maxRecDepth 100000 in
theorem i142_122 : INS 142 122 = some (16, 3, 11, 25, .null, []) := rfl
set_option maxRecDepth 100000 in
theorem i142_125 : INS 142 125 = some (0, 1, 1, 0, .null, []) := rfl
set_option maxRecDepth 100000 in
theorem i142_126 : INS 142 126 = some (18, 1, 20, 0, .null, []) := rfl
set_option maxRecDepth 100000 in
theorem i142_127 : INS 142 127 = some (10, 3, 168, 4, .null, []) := rfl
set_option maxRecDepth 100000 in
theorem i142_130 : INS 142 130 = some (0, 2, 4, 0, .null, []) := rfl
set_option maxRecDepth 100000 in
theorem i142_132 : INS 142 132 = some (0, 1, 0, 2, .null, []) := rfl
set_option maxRecDepth 100000 in
theorem i142_133 : INS 142 133 = some (16, 3, 11, 25, .null, []) := rfl
set_option maxRecDepth 100000 in
theorem i142_136 : INS 142 136 = some (0, 1, 2, 0, .null, []) := rfl
set_option maxRecDepth 100000 in
theorem i142_137 : INS 142 137 = some (18, 1, 20, 0, .null, []) := rfl
set_option maxRecDepth 100000 in
theorem i142_138 : INS 142 138 = some (10, 3, 168, 4, .null, []) := rfl
set_option maxRecDepth 100000 in
theorem i142_141 : INS 142 141 = some (0, 2, 5, 0, .null, []) := rfl
set_option maxRecDepth 100000 in
theorem i142_143 : INS 142 143 = some (0, 1, 0, 2, .null, []) := rfl
set_option maxRecDepth 100000 in
theorem i142_144 : INS 142 144 = some (16, 3, 11, 25, .null, []) := rfl
set_option maxRecDepth 100000 in
theorem i142_147 : INS 142 147 = some (0, 1, 1, 0, .null, []) := rfl
set_option maxRecDepth 100000 in
theorem i142_148 : INS 142 148 = some (18, 1, 20, 0, .null, []) := rfl
set_option maxRecDepth 100000 in
theorem i142_149 : INS 142 149 = some (0, 1, 3, 0, .null, []) := rfl
set_option maxRecDepth 100000 in
theorem i142_150 : INS 142 150 = some (3, 1, 1, 0, .null, []) := rfl
set_option maxRecDepth 100000 in
theorem i142_151 : INS 142 151 = some (10, 3, 168, 4, .null, []) := rfl
set_option maxRecDepth 100000 in
theorem i142_154 : INS 142 154 = some (0, 2, 5, 0, .null, []) := rfl
set_option maxRecDepth 100000 in
theorem i142_156 : INS 142 156 = some (0, 1, 0, 2, .null, []) := rfl
set_option maxRecDepth 100000 in
theorem i142_157 : INS 142 157 = some (16, 3, 11, 25, .null, []) := rfl
set_option maxRecDepth 100000 in
theorem i142_160 : INS 142 160 = some (0, 1, 2, 0, .null, []) := rfl
set_option maxRecDepth 100000 in
theorem i142_161 : INS 142 161 = some (18, 1, 20, 0, .null, []) := rfl
set_option maxRecDepth 100000 in
theorem i142_162 : INS 142 162 = some (0, 2, 4, 0, .null, []) := rfl
set_option maxRecDepth 100000 in
theorem i142_164 : INS 142 164 = some (3, 1, 1, 0, .null, []) := rfl
set_option maxRecDepth 100000 in
theorem i142_165 : INS 142 165 = some (10, 3, 175, 5, .null, []) := rfl
set_option maxRecDepth 100000 in
theorem i142_168 : INS 142 168 = some (0, 1, 0, 2, .null, []) := rfl
set_option maxRecDepth 100000 in
theorem i142_169 : INS 142 169 = some (2, 2, 0, 0, .int (-5), []) := rfl
set_option maxRecDepth 100000 in
theorem i142_171 : INS 142 171 = some (24, 3, 124, 0, .null, []) := rfl
set_option maxRecDepth 100000 in
theorem i142_174 : INS 142 174 = some (27, 1, 0, 0, .null, []) := rfl
set_option maxRecDepth 100000 in
theorem i142_175 : INS 142 175 = some (2, 1, 0, 0, .int 0, []) := rfl
set_option maxRecDepth 100000 in
theorem i142_176 : INS 142 176 = some (1, 2, 6, 0, .null, []) := rfl
set_option maxRecDepth 100000 in
theorem i142_178 : INS 142 178 = some (0, 2, 6, 0, .null, []) := rfl
set_option maxRecDepth 100000 in
theorem i142_180 : INS 142 180 = some (0, 2, 5, 0, .null, []) := rfl
set_option maxRecDepth 100000 in
theorem i142_182 : INS 142 182 = some (10, 3, 212, 3, .null, []) := rfl
set_option maxRecDepth 100000 in
theorem i142_185 : INS 142 185 = some (0, 1, 0, 2, .null, []) := rfl
set_option maxRecDepth 100000 in
theorem i142_186 : INS 142 186 = some (16, 3, 11, 27, .null, []) := rfl
set_option maxRecDepth 100000 in
theorem i142_189 : INS 142 189 = some (0, 2, 6, 0, .null, []) := rfl
set_option maxRecDepth 100000 in
theorem i142_191 : INS 142 191 = some (0, 1, 0, 2, .null, []) := rfl
set_option maxRecDepth 100000 in
theorem i142_192 : INS 142 192 = some (16, 3, 11, 26, .null, []) := rfl
set_option maxRecDepth 100000 in
theorem i142_195 : INS 142 195 = some (2, 2, 0, 0, .int 100, []) := rfl
set_option maxRecDepth 100000 in
theorem i142_197 : INS 142 197 = some (0, 1, 1, 0, .null, []) := rfl
set_option maxRecDepth 100000 in
theorem i142_198 : INS 142 198 = some (3, 1, 2, 0, .null, []) := rfl
set_option maxRecDepth 100000 in
theorem i142_199 : INS 142 199 = some (0, 1, 3, 0, .null, []) := rfl
set_option maxRecDepth 100000 in
theorem i142_200 : INS 142 200 = some (3, 1, 0, 0, .null, []) := rfl
set_option maxRecDepth 100000 in
theorem i142_201 : INS 142 201 = some (0, 2, 6, 0, .null, []) := rfl
set_option maxRecDepth 100000 in
theorem i142_203 : INS 142 203 = some (3, 1, 0, 0, .null, []) := rfl
set_option maxRecDepth 100000 in
theorem i142_204 : INS 142 204 = some (18, 1, 21, 0, .null, []) := rfl
set_option maxRecDepth 100000 in
theorem i142_205 : INS 142 205 = some (19, 1, 21, 0, .null, []) := rfl
set_option maxRecDepth 100000 in
theorem i142_206 : INS 142 206 = some (15, 3, 6, 0, .int 1, []) := rfl
set_option maxRecDepth 100000 in
theorem i142_209 : INS 142 209 = some (12, 3, 178, 0, .null, []) := rfl
set_option maxRecDepth 100000 in
theorem i142_212 : INS 142 212 = some (2, 1, 0, 0, .int 0, []) := rfl
set_option maxRecDepth 100000 in
theorem i142_213 : INS 142 213 = some (1, 2, 6, 0, .null, []) := rfl
set_option maxRecDepth 100000 in
theorem i142_215 : INS 142 215 = some (0, 2, 6, 0, .null, []) := rfl
set_option maxRecDepth 100000 in
theorem i142_217 : INS 142 217 = some (0, 2, 5, 0, .null, []) := rfl
set_option maxRecDepth 100000 in
theorem i142_219 : INS 142 219 = some (10, 3, 250, 3, .null, []) := rfl
set_option maxRecDepth 100000 in
theorem i142_222 : INS 142 222 = some (0, 1, 0, 2, .null, []) := rfl
set_option maxRecDepth 100000 in
theorem i142_223 : INS 142 223 = some (16, 3, 11, 26, .null, []) := rfl
set_option maxRecDepth 100000 in
theorem i142_226 : INS 142 226 = some (2, 2, 0, 0, .int 100, []) := rfl
set_option maxRecDepth 100000 in
theorem i142_228 : INS 142 228 = some (0, 1, 2, 0, .null, []) := rfl
set_option maxRecDepth 100000 in
theorem i142_229 : INS 142 229 = some (3, 1, 2, 0, .null, []) := rfl
set_option maxRecDepth 100000 in
theorem i142_230 : INS 142 230 = some (0, 2, 4, 0, .null, []) := rfl
set_option maxRecDepth 100000 in
theorem i142_232 : INS 142 232 = some (3, 1, 0, 0, .null, []) := rfl
set_option maxRecDepth 100000 in
theorem i142_233 : INS 142 233 = some (0, 2, 6, 0, .null, []) := rfl
set_option maxRecDepth 100000 in
theorem i142_235 : INS 142 235 = some (3, 1, 0, 0, .null, []) := rfl
set_option maxRecDepth 100000 in
theorem i142_236 : INS 142 236 = some (0, 1, 0, 2, .null, []) := rfl
set_option maxRecDepth 100000 in
theorem i142_237 : INS 142 237 = some (16, 3, 11, 27, .null, []) := rfl
set_option maxRecDepth 100000 in
theorem i142_240 : INS 142 240 = some (0, 2, 6, 0, .null, []) := rfl
set_option maxRecDepth 100000 in
theorem i142_242 : INS 142 242 = some (18, 1, 21, 0, .null, []) := rfl
set_option maxRecDepth 100000 in
theorem i142_243 : INS 142 243 = some (19, 1, 21, 0, .null, []) := rfl
set_option maxRecDepth 100000 in
theorem i142_244 : INS 142 244 = some (15, 3, 6, 0, .int 1, []) := rfl
set_option maxRecDepth 100000 in
theorem i142_247 : INS 142 247 = some (12, 3, 215, 0, .null, []) := rfl
set_option maxRecDepth 100000 in
theorem i142_250 : INS 142 250 = some (2, 1, 0, 0, .int 1, []) := rfl
set_option maxRecDepth 100000 in
theorem i142_251 : INS 142 251 = some (27, 1, 0, 0, .null, []) := rfl
set_option maxRecDepth 100000 in
theorem i143_0 : INS 143 0 = some (0, 1, 1, 0, .null, []) := rfl
set_option maxRecDepth 100000 in
theorem i143_1 : INS 143 1 = some (24, 3, 136, 2, .null, []) := rfl
set_option maxRecDepth 100000 in
theorem i143_4 : INS 143 4 = some (9, 3, 45, 0, .null, []) := rfl
set_option maxRecDepth 100000 in
theorem i143_7 : INS 143 7 = some (0, 1, 0, 2, .null, []) := rfl
set_option maxRecDepth 100000 in
theorem i143_8 : INS 143 8 = some (0, 1, 1, 0, .null, []) := rfl
set_option maxRecDepth 100000 in
theorem i143_9 : INS 143 9 = some (24, 3, 137, 0, .null, []) := rfl
set_option maxRecDepth 100000 in
theorem i143_12 : INS 143 12 = some (9, 3, 45, 0, .null, []) := rfl
set_option maxRecDepth 100000 in
theorem i143_15 : INS 143 15 = some (0, 1, 2, 0, .null, []) := rfl
set_option maxRecDepth 100000 in
theorem i143_16 : INS 143 16 = some (2, 1, 0, 0, .int 0, []) := rfl
set_option maxRecDepth 100000 in
theorem i143_17 : INS 143 17 = some (0, 1, 0, 2, .null, []) := rfl
set_option maxRecDepth 100000 in
theorem i143_18 : INS 143 18 = some (16, 3, 11, 25, .null, []) := rfl
set_option maxRecDepth 100000 in
theorem i143_21 : INS 143 21 = some (0, 1, 1, 0, .null, []) := rfl
set_option maxRecDepth 100000 in
theorem i143_22 : INS 143 22 = some (18, 1, 20, 0, .null, []) := rfl
set_option maxRecDepth 100000 in
theorem i143_23 : INS 143 23 = some (2, 1, 0, 0, .int 1, []) := rfl
set_option maxRecDepth 100000 in
theorem i143_24 : INS 143 24 = some (3, 1, 1, 0, .null, []) := rfl
set_option maxRecDepth 100000 in
theorem i143_25 : INS 143 25 = some (24, 3, 123, 2, .null, []) := rfl
set_option maxRecDepth 100000 in
theorem i143_28 : INS 143 28 = some (9, 3, 45, 0, .null, []) := rfl
set_option maxRecDepth 100000 in
theorem i143_31 : INS 143 31 = some (0, 1, 0, 2, .null, []) := rfl
set_option maxRecDepth 100000 in
theorem i143_32 : INS 143 32 = some (16, 3, 11, 26, .null, []) := rfl
set_option maxRecDepth 100000 in
theorem i143_35 : INS 143 35 = some (2, 2, 0, 0, .int 100, []) := rfl
set_option maxRecDepth 100000 in
theorem i143_37 : INS 143 37 = some (0, 1, 1, 0, .null, []) := rfl
