/-! What each class and each method brings: its words. -/
def x_mt : List (Nat × Nat × Nat × Nat) := [(78, 2, 104, 0), (78, 0, 480, 481), (78, 0, 495, 496), (78, 0, 424, 425), (84, 2, 309, 0), (84, 0, 722, 723), (84, 0, 735, 17), (84, 0, 745, 18), (84, 0, 749, 19), (84, 0, 752, 753), (84, 0, 758, 20), (84, 0, 769, 770), (84, 0, 777, 778), (79, 2, 123, 0), (79, 0, 508, 509), (79, 0, 726, 727), (79, 0, 647, 648), (79, 0, 672, 11), (79, 0, 686, 13), (79, 0, 694, 14), (79, 0, 679, 12), (79, 0, 707, 16), (79, 0, 916, 917), (79, 0, 920, 921), (79, 0, 928, 929), (80, 2, 130, 0), (80, 0, 513, 514), (80, 0, 517, 518), (80, 0, 730, 731), (80, 0, 689, 690), (80, 0, 651, 652), (80, 0, 656, 8), (80, 0, 660, 9), (80, 0, 664, 10), (80, 0, 667, 668), (80, 0, 697, 698), (80, 0, 703, 15), (80, 0, 710, 711), (80, 0, 714, 715), (80, 0, 924, 925), (80, 0, 738, 739), (80, 0, 785, 786), (83, 2, 261, 0), (83, 0, 598, 599), (83, 0, 603, 4), (83, 0, 614, 615), (83, 0, 618, 619), (83, 0, 622, 623), (83, 0, 630, 631), (83, 0, 627, 6), (83, 0, 635, 7), (86, 2, 370, 0), (86, 0, 798, 799), (86, 0, 804, 21), (86, 0, 811, 22), (86, 0, 815, 23), (86, 0, 819, 24), (86, 0, 824, 25), (86, 0, 828, 26), (86, 0, 832, 27), (86, 0, 843, 844), (86, 0, 848, 28), (88, 2, 430, 0), (88, 0, 476, 477), (85, 2, 354, 0), (85, 0, 858, 859), (85, 0, 864, 29), (85, 0, 868, 30), (85, 0, 872, 31), (85, 0, 888, 34), (85, 0, 879, 32), (85, 0, 884, 33), (85, 0, 895, 896), (85, 0, 900, 35), (85, 0, 904, 36), (85, 0, 908, 37), (82, 2, 241, 0), (82, 0, 553, 554), (82, 0, 564, 565), (82, 0, 568, 569), (82, 0, 536, 537), (81, 2, 235, 0), (81, 0, 549, 550), (77, 2, 96, 0), (77, 0, 410, 411), (77, 0, 484, 485), (77, 0, 521, 522), (77, 0, 540, 541), (77, 0, 545, 546), (77, 0, 560, 561), (77, 0, 572, 573), (77, 0, 579, 580), (77, 0, 583, 584), (77, 0, 587, 588), (77, 0, 591, 592), (77, 0, 606, 607), (77, 0, 639, 640), (77, 0, 643, 644), (77, 0, 718, 719), (77, 0, 765, 766), (77, 0, 773, 774), (77, 0, 781, 782), (77, 0, 790, 791), (77, 0, 794, 795), (77, 0, 835, 836), (77, 0, 839, 840), (77, 0, 854, 855), (77, 0, 891, 892), (77, 0, 912, 913), (77, 0, 421, 0), (77, 0, 526, 2), (77, 0, 611, 5), (77, 0, 489, 1), (77, 0, 533, 3), (77, 1, 417, 0), (77, 1, 492, 0), (77, 1, 529, 0), (77, 1, 414, 0), (77, 1, 499, 0), (77, 1, 595, 0), (77, 1, 682, 0), (77, 1, 675, 0), (87, 2, 934, 0), (87, 1, 1099, 0), (87, 0, 1107, 39), (87, 1, 1118, 0), (87, 1, 1096, 0), (87, 1, 1229, 0), (87, 0, 1245, 56), (87, 0, 1103, 38), (87, 0, 1092, 1093), (87, 1, 1121, 0), (87, 0, 1115, 40), (87, 0, 1125, 41), (87, 0, 1110, 1111), (87, 0, 1128, 1129), (87, 1, 1136, 0), (87, 0, 1148, 43), (87, 1, 1151, 0), (87, 0, 1132, 1133), (87, 0, 1144, 42), (87, 0, 1139, 1140), (87, 0, 1154, 1155), (87, 0, 1158, 1159), (87, 0, 1162, 1163), (87, 0, 1166, 1167), (87, 0, 1175, 44), (87, 0, 1170, 1171), (87, 0, 1178, 1179), (87, 0, 1183, 45), (87, 1, 1198, 0), (87, 0, 1195, 47), (87, 0, 1191, 46), (87, 0, 1186, 1187), (87, 0, 1201, 1202), (87, 0, 1218, 50), (87, 0, 1222, 51), (87, 0, 1233, 53), (87, 0, 1237, 54), (87, 0, 1241, 55), (87, 0, 1226, 52), (87, 0, 1249, 57), (87, 0, 1214, 49), (87, 0, 1253, 58), (87, 0, 1257, 59), (87, 0, 1210, 48), (87, 0, 1205, 1206), (87, 0, 1269, 61), (87, 0, 1273, 62), (87, 0, 1265, 60), (87, 0, 1277, 63), (87, 0, 1285, 65), (87, 0, 1281, 64), (87, 0, 1260, 1261), (87, 0, 1288, 1289), (87, 0, 1292, 1293), (87, 0, 1296, 1297), (87, 0, 1300, 1301), (87, 1, 1316, 0), (87, 0, 1313, 67), (87, 0, 1309, 66), (87, 0, 1320, 68), (87, 0, 1304, 1305), (87, 0, 1323, 1324), (87, 0, 1327, 1328), (87, 0, 1348, 72), (87, 0, 1352, 73), (87, 0, 1340, 70), (87, 0, 1344, 71), (87, 0, 1336, 69), (87, 0, 1331, 1332), (87, 0, 1360, 74), (87, 0, 1355, 1356), (87, 0, 1368, 75), (87, 0, 1363, 1364), (89, 1, 502, 0), (92, 1, 762, 0), (92, 1, 851, 0), (90, 1, 557, 0), (90, 1, 807, 0), (0, 9, 0, 0)]
def x_kd (k : Nat) : Nat := (x_mt.getD k (0, 9, 0, 0)).2.1
def x_mck (k : Nat) : Bool := match x_mt.getD k (0, 9, 0, 0) with
  | (i1, kd, i2, i3) => (x_wd (MX k) (.code (MN k) (MB k) (ML k) (MR k)) && (x_wd i1 (.initialized (MN k).cls) && (plainName (MN k).cls && decide ((MN k).cls ≠ "java/lang/invoke/MethodHandle" ∧ (MN k).cls ≠ "java/lang/invoke/VarHandle")))) && match kd with
    | 0 => x_wd i2 (.instanceMethod (MN k)) && (x_wd i3 (.selects (MN k).cls (MN k) (MN k)) && (decide ((parseMethodDescriptor (MN k).desc).map (fun d => d.parameters.length + 1) = some (MA k)) && (Nat.blt (MC k) 12 && decide (RN (MC k) = (MN k).cls))))
    | 1 => x_wd i2 (.static (MN k)) && decide ((parseMethodDescriptor (MN k).desc).map (fun d => d.parameters.length) = some (MA k))
    | 2 => x_wd i2 (.instanceMethod (MN k)) && (decide ((parseMethodDescriptor (MN k).desc).map (fun d => d.parameters.length + 1) = some (MA k)) && decide ((MN k).name = "<init>"))
    | _ => false
theorem x_mc0 : (List.range 50).all (fun i => x_mck (0 + i)) = true := by decide +kernel
theorem x_mc1 : (List.range 50).all (fun i => x_mck (50 + i)) = true := by decide +kernel
theorem x_mc2 : (List.range 50).all (fun i => x_mck (100 + i)) = true := by decide +kernel
theorem x_mc3 : (List.range 50).all (fun i => x_mck (150 + i)) = true := by decide +kernel
theorem x_mok {k : Nat} (h : k < 200) : x_mck k = true := by
  have g : ∀ (a n : Nat), (List.range n).all (fun i => x_mck (a + i)) = true → a ≤ k → k < a + n → x_mck k = true := by
    intro a n hn h1 h2
    have h3 := List.all_eq_true.mp hn (k - a) (List.mem_range.mpr (by omega))
    rwa [show a + (k - a) = k by omega] at h3
  rcases Nat.lt_or_ge k 50 with q | q
  · exact g 0 50 x_mc0 (by omega) (by omega)
  · rcases Nat.lt_or_ge k 100 with q2 | q2
    · exact g 50 50 x_mc1 (by omega) (by omega)
    · rcases Nat.lt_or_ge k 150 with q3 | q3
      · exact g 100 50 x_mc2 (by omega) (by omega)
      · exact g 150 50 x_mc3 (by omega) (by omega)
theorem x_cf0 : vwCl[0]? = some (RN 0, TT 0, NF 0) ∧ (∀ w ∈ u_ws (RN 0) (TT 0) (NF 0), w ∈ x_all) ∧ (∀ k, k < NF 0 → parseFieldDescriptor (TT 0 k).2.2.1 = some (TY 0 k)) ∧ (∀ x, x < NF 0 → ∀ y, y < NF 0 → x ≠ y → (TT 0 x).2.1 ≠ (TT 0 y).2.1) ∧ Cond.instantiable (RN 0) (NF 0) ∈ x_all ∧ Cond.initialized (RN 0) ∈ x_all := by
  refine ⟨rfl, fun w hw => ?_, tyX0_ok, nmX0, x_wd_in (ix := 102) (by decide +kernel), x_wd_in (ix := 78) (by decide +kernel)⟩
  have h := (List.all_eq_true.mp (show (u_ws (RN 0) (TT 0) (NF 0)).all (fun w => decide (w ∈ lw_tbl) && goodWord w) = true by decide +kernel)) w hw
  simp only [Bool.and_eq_true, decide_eq_true_eq] at h
  exact List.mem_filter.mpr h
theorem x_cf1 : vwCl[1]? = some (RN 1, TT 1, NF 1) ∧ (∀ w ∈ u_ws (RN 1) (TT 1) (NF 1), w ∈ x_all) ∧ (∀ k, k < NF 1 → parseFieldDescriptor (TT 1 k).2.2.1 = some (TY 1 k)) ∧ (∀ x, x < NF 1 → ∀ y, y < NF 1 → x ≠ y → (TT 1 x).2.1 ≠ (TT 1 y).2.1) ∧ Cond.instantiable (RN 1) (NF 1) ∈ x_all ∧ Cond.initialized (RN 1) ∈ x_all := by
  refine ⟨rfl, fun w hw => ?_, tyX1_ok, nmX1, x_wd_in (ix := 307) (by decide +kernel), x_wd_in (ix := 84) (by decide +kernel)⟩
  have h := (List.all_eq_true.mp (show (u_ws (RN 1) (TT 1) (NF 1)).all (fun w => decide (w ∈ lw_tbl) && goodWord w) = true by decide +kernel)) w hw
  simp only [Bool.and_eq_true, decide_eq_true_eq] at h
  exact List.mem_filter.mpr h
theorem x_cf2 : vwCl[2]? = some (RN 2, TT 2, NF 2) ∧ (∀ w ∈ u_ws (RN 2) (TT 2) (NF 2), w ∈ x_all) ∧ (∀ k, k < NF 2 → parseFieldDescriptor (TT 2 k).2.2.1 = some (TY 2 k)) ∧ (∀ x, x < NF 2 → ∀ y, y < NF 2 → x ≠ y → (TT 2 x).2.1 ≠ (TT 2 y).2.1) ∧ Cond.instantiable (RN 2) (NF 2) ∈ x_all ∧ Cond.initialized (RN 2) ∈ x_all := by
  refine ⟨rfl, fun w hw => ?_, tyX2_ok, nmX2, x_wd_in (ix := 121) (by decide +kernel), x_wd_in (ix := 79) (by decide +kernel)⟩
  have h := (List.all_eq_true.mp (show (u_ws (RN 2) (TT 2) (NF 2)).all (fun w => decide (w ∈ lw_tbl) && goodWord w) = true by decide +kernel)) w hw
  simp only [Bool.and_eq_true, decide_eq_true_eq] at h
  exact List.mem_filter.mpr h
theorem x_cf3 : vwCl[3]? = some (RN 3, TT 3, NF 3) ∧ (∀ w ∈ u_ws (RN 3) (TT 3) (NF 3), w ∈ x_all) ∧ (∀ k, k < NF 3 → parseFieldDescriptor (TT 3 k).2.2.1 = some (TY 3 k)) ∧ (∀ x, x < NF 3 → ∀ y, y < NF 3 → x ≠ y → (TT 3 x).2.1 ≠ (TT 3 y).2.1) ∧ Cond.instantiable (RN 3) (NF 3) ∈ x_all ∧ Cond.initialized (RN 3) ∈ x_all := by
  refine ⟨rfl, fun w hw => ?_, tyX3_ok, nmX3, x_wd_in (ix := 128) (by decide +kernel), x_wd_in (ix := 80) (by decide +kernel)⟩
  have h := (List.all_eq_true.mp (show (u_ws (RN 3) (TT 3) (NF 3)).all (fun w => decide (w ∈ lw_tbl) && goodWord w) = true by decide +kernel)) w hw
  simp only [Bool.and_eq_true, decide_eq_true_eq] at h
  exact List.mem_filter.mpr h
theorem x_cf4 : vwCl[4]? = some (RN 4, TT 4, NF 4) ∧ (∀ w ∈ u_ws (RN 4) (TT 4) (NF 4), w ∈ x_all) ∧ (∀ k, k < NF 4 → parseFieldDescriptor (TT 4 k).2.2.1 = some (TY 4 k)) ∧ (∀ x, x < NF 4 → ∀ y, y < NF 4 → x ≠ y → (TT 4 x).2.1 ≠ (TT 4 y).2.1) ∧ Cond.instantiable (RN 4) (NF 4) ∈ x_all ∧ Cond.initialized (RN 4) ∈ x_all := by
  refine ⟨rfl, fun w hw => ?_, tyX4_ok, nmX4, x_wd_in (ix := 259) (by decide +kernel), x_wd_in (ix := 83) (by decide +kernel)⟩
  have h := (List.all_eq_true.mp (show (u_ws (RN 4) (TT 4) (NF 4)).all (fun w => decide (w ∈ lw_tbl) && goodWord w) = true by decide +kernel)) w hw
  simp only [Bool.and_eq_true, decide_eq_true_eq] at h
  exact List.mem_filter.mpr h
theorem x_cf5 : vwCl[5]? = some (RN 5, TT 5, NF 5) ∧ (∀ w ∈ u_ws (RN 5) (TT 5) (NF 5), w ∈ x_all) ∧ (∀ k, k < NF 5 → parseFieldDescriptor (TT 5 k).2.2.1 = some (TY 5 k)) ∧ (∀ x, x < NF 5 → ∀ y, y < NF 5 → x ≠ y → (TT 5 x).2.1 ≠ (TT 5 y).2.1) ∧ Cond.instantiable (RN 5) (NF 5) ∈ x_all ∧ Cond.initialized (RN 5) ∈ x_all := by
  refine ⟨rfl, fun w hw => ?_, tyX5_ok, nmX5, x_wd_in (ix := 368) (by decide +kernel), x_wd_in (ix := 86) (by decide +kernel)⟩
  have h := (List.all_eq_true.mp (show (u_ws (RN 5) (TT 5) (NF 5)).all (fun w => decide (w ∈ lw_tbl) && goodWord w) = true by decide +kernel)) w hw
  simp only [Bool.and_eq_true, decide_eq_true_eq] at h
  exact List.mem_filter.mpr h
theorem x_cf6 : vwCl[6]? = some (RN 6, TT 6, NF 6) ∧ (∀ w ∈ u_ws (RN 6) (TT 6) (NF 6), w ∈ x_all) ∧ (∀ k, k < NF 6 → parseFieldDescriptor (TT 6 k).2.2.1 = some (TY 6 k)) ∧ (∀ x, x < NF 6 → ∀ y, y < NF 6 → x ≠ y → (TT 6 x).2.1 ≠ (TT 6 y).2.1) ∧ Cond.instantiable (RN 6) (NF 6) ∈ x_all ∧ Cond.initialized (RN 6) ∈ x_all := by
  refine ⟨rfl, fun w hw => ?_, tyX6_ok, nmX6, x_wd_in (ix := 428) (by decide +kernel), x_wd_in (ix := 88) (by decide +kernel)⟩
  have h := (List.all_eq_true.mp (show (u_ws (RN 6) (TT 6) (NF 6)).all (fun w => decide (w ∈ lw_tbl) && goodWord w) = true by decide +kernel)) w hw
  simp only [Bool.and_eq_true, decide_eq_true_eq] at h
  exact List.mem_filter.mpr h
theorem x_cf7 : vwCl[7]? = some (RN 7, TT 7, NF 7) ∧ (∀ w ∈ u_ws (RN 7) (TT 7) (NF 7), w ∈ x_all) ∧ (∀ k, k < NF 7 → parseFieldDescriptor (TT 7 k).2.2.1 = some (TY 7 k)) ∧ (∀ x, x < NF 7 → ∀ y, y < NF 7 → x ≠ y → (TT 7 x).2.1 ≠ (TT 7 y).2.1) ∧ Cond.instantiable (RN 7) (NF 7) ∈ x_all ∧ Cond.initialized (RN 7) ∈ x_all := by
  refine ⟨rfl, fun w hw => ?_, tyX7_ok, nmX7, x_wd_in (ix := 352) (by decide +kernel), x_wd_in (ix := 85) (by decide +kernel)⟩
  have h := (List.all_eq_true.mp (show (u_ws (RN 7) (TT 7) (NF 7)).all (fun w => decide (w ∈ lw_tbl) && goodWord w) = true by decide +kernel)) w hw
  simp only [Bool.and_eq_true, decide_eq_true_eq] at h
  exact List.mem_filter.mpr h
theorem x_cf8 : vwCl[8]? = some (RN 8, TT 8, NF 8) ∧ (∀ w ∈ u_ws (RN 8) (TT 8) (NF 8), w ∈ x_all) ∧ (∀ k, k < NF 8 → parseFieldDescriptor (TT 8 k).2.2.1 = some (TY 8 k)) ∧ (∀ x, x < NF 8 → ∀ y, y < NF 8 → x ≠ y → (TT 8 x).2.1 ≠ (TT 8 y).2.1) ∧ Cond.instantiable (RN 8) (NF 8) ∈ x_all ∧ Cond.initialized (RN 8) ∈ x_all := by
  refine ⟨rfl, fun w hw => ?_, tyX8_ok, nmX8, x_wd_in (ix := 239) (by decide +kernel), x_wd_in (ix := 82) (by decide +kernel)⟩
  have h := (List.all_eq_true.mp (show (u_ws (RN 8) (TT 8) (NF 8)).all (fun w => decide (w ∈ lw_tbl) && goodWord w) = true by decide +kernel)) w hw
  simp only [Bool.and_eq_true, decide_eq_true_eq] at h
  exact List.mem_filter.mpr h
theorem x_cf9 : vwCl[9]? = some (RN 9, TT 9, NF 9) ∧ (∀ w ∈ u_ws (RN 9) (TT 9) (NF 9), w ∈ x_all) ∧ (∀ k, k < NF 9 → parseFieldDescriptor (TT 9 k).2.2.1 = some (TY 9 k)) ∧ (∀ x, x < NF 9 → ∀ y, y < NF 9 → x ≠ y → (TT 9 x).2.1 ≠ (TT 9 y).2.1) ∧ Cond.instantiable (RN 9) (NF 9) ∈ x_all ∧ Cond.initialized (RN 9) ∈ x_all := by
  refine ⟨rfl, fun w hw => ?_, tyX9_ok, nmX9, x_wd_in (ix := 233) (by decide +kernel), x_wd_in (ix := 81) (by decide +kernel)⟩
  have h := (List.all_eq_true.mp (show (u_ws (RN 9) (TT 9) (NF 9)).all (fun w => decide (w ∈ lw_tbl) && goodWord w) = true by decide +kernel)) w hw
  simp only [Bool.and_eq_true, decide_eq_true_eq] at h
  exact List.mem_filter.mpr h
theorem x_cf10 : vwCl[10]? = some (RN 10, TT 10, NF 10) ∧ (∀ w ∈ u_ws (RN 10) (TT 10) (NF 10), w ∈ x_all) ∧ (∀ k, k < NF 10 → parseFieldDescriptor (TT 10 k).2.2.1 = some (TY 10 k)) ∧ (∀ x, x < NF 10 → ∀ y, y < NF 10 → x ≠ y → (TT 10 x).2.1 ≠ (TT 10 y).2.1) ∧ Cond.instantiable (RN 10) (NF 10) ∈ x_all ∧ Cond.initialized (RN 10) ∈ x_all := by
  refine ⟨rfl, fun w hw => ?_, tyX10_ok, nmX10, x_wd_in (ix := 94) (by decide +kernel), x_wd_in (ix := 77) (by decide +kernel)⟩
  have h := (List.all_eq_true.mp (show (u_ws (RN 10) (TT 10) (NF 10)).all (fun w => decide (w ∈ lw_tbl) && goodWord w) = true by decide +kernel)) w hw
  simp only [Bool.and_eq_true, decide_eq_true_eq] at h
  exact List.mem_filter.mpr h
theorem x_cf11 : vwCl[11]? = some (RN 11, TT 11, NF 11) ∧ (∀ w ∈ u_ws (RN 11) (TT 11) (NF 11), w ∈ x_all) ∧ (∀ k, k < NF 11 → parseFieldDescriptor (TT 11 k).2.2.1 = some (TY 11 k)) ∧ (∀ x, x < NF 11 → ∀ y, y < NF 11 → x ≠ y → (TT 11 x).2.1 ≠ (TT 11 y).2.1) ∧ Cond.instantiable (RN 11) (NF 11) ∈ x_all ∧ Cond.initialized (RN 11) ∈ x_all := by
  refine ⟨rfl, fun w hw => ?_, tyX11_ok, nmX11, x_wd_in (ix := 932) (by decide +kernel), x_wd_in (ix := 87) (by decide +kernel)⟩
  have h := (List.all_eq_true.mp (show (u_ws (RN 11) (TT 11) (NF 11)).all (fun w => decide (w ∈ lw_tbl) && goodWord w) = true by decide +kernel)) w hw
  simp only [Bool.and_eq_true, decide_eq_true_eq] at h
  exact List.mem_filter.mpr h
theorem x_cf : ∀ a, a < 12 → vwCl[a]? = some (RN a, TT a, NF a) ∧ (∀ w ∈ u_ws (RN a) (TT a) (NF a), w ∈ x_all) ∧ (∀ k, k < NF a → parseFieldDescriptor (TT a k).2.2.1 = some (TY a k)) ∧ (∀ x, x < NF a → ∀ y, y < NF a → x ≠ y → (TT a x).2.1 ≠ (TT a y).2.1) ∧ Cond.instantiable (RN a) (NF a) ∈ x_all ∧ Cond.initialized (RN a) ∈ x_all
  | 0, _ => x_cf0
  | 1, _ => x_cf1
  | 2, _ => x_cf2
  | 3, _ => x_cf3
  | 4, _ => x_cf4
  | 5, _ => x_cf5
  | 6, _ => x_cf6
  | 7, _ => x_cf7
  | 8, _ => x_cf8
  | 9, _ => x_cf9
  | 10, _ => x_cf10
  | 11, _ => x_cf11
  | n + 12, h => absurd h (by omega)
theorem x_wobj : Cond.instanceMethod objectInit ∈ x_all ∧ Cond.code objectInit ⟨#[0xb1]⟩ 1 none ∈ x_all := ⟨x_wd_in (ix := 99) (by decide +kernel), x_wd_in (ix := 100) (by decide +kernel)⟩
theorem x_wacp : Cond.native arraycopyName ∈ x_all ∧ Cond.static arraycopyName ∈ x_all ∧ Cond.initialized "java/lang/System" ∈ x_all := ⟨x_wd_in (ix := 577) (by decide +kernel), x_wd_in (ix := 576) (by decide +kernel), x_wd_in (ix := 91) (by decide +kernel)⟩
theorem x_warr20 : Cond.arrayClass .int ∈ x_all := x_wd_in (ix := 119) (by decide +kernel)
theorem x_warr21 : Cond.arrayClass .long ∈ x_all := x_wd_in (ix := 257) (by decide +kernel)
theorem x_warr22 : Cond.arrayClass .boolean ∈ x_all := x_wd_in (ix := 350) (by decide +kernel)
