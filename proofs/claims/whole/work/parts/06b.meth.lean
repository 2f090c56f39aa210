/-! What each class and each method brings: its words, together. -/
theorem x_wmax : Cond.static (MN 196) ∈ x_all ∧ Cond.code (MN 196) (MB 196) 2 (some .int) ∈ x_all ∧ Cond.static (MN 197) ∈ x_all ∧ Cond.code (MN 197) (MB 197) 4 (some .long) ∈ x_all ∧ Cond.initialized "java/lang/Math" ∈ x_all := ⟨x_wd_in (ix := 762) (by decide +kernel), x_wd_in (ix := 763) (by decide +kernel), x_wd_in (ix := 852) (by decide +kernel), x_wd_in (ix := 853) (by decide +kernel), x_wd_in (ix := 92) (by decide +kernel)⟩
def x_am : Nat → Nat → Prop
  | _, 0 => True
  | a, n + 1 => ((a = 196 ∨ a = 197) ∨ x_mck a = true) ∧ x_am (a + 1) n
theorem x_am_get : ∀ (n a i : Nat), x_am a n → i < n → ((a + i = 196 ∨ a + i = 197) ∨ x_mck (a + i) = true)
  | 0, _, _, _, h => absurd h (Nat.not_lt_zero _)
  | n + 1, a, 0, h, _ => h.1
  | n + 1, a, i + 1, h, hi => by
    have h2 := x_am_get n (a + 1) i h.2 (by omega)
    rwa [show a + (i + 1) = a + 1 + i by omega]
theorem x_am_all : x_am 0 200 := ⟨Or.inr x_mc0, ⟨Or.inr x_mc1, ⟨Or.inr x_mc2, ⟨Or.inr x_mc3, ⟨Or.inr x_mc4, ⟨Or.inr x_mc5, ⟨Or.inr x_mc6, ⟨Or.inr x_mc7, ⟨Or.inr x_mc8, ⟨Or.inr x_mc9, ⟨Or.inr x_mc10, ⟨Or.inr x_mc11, ⟨Or.inr x_mc12, ⟨Or.inr x_mc13, ⟨Or.inr x_mc14, ⟨Or.inr x_mc15, ⟨Or.inr x_mc16, ⟨Or.inr x_mc17, ⟨Or.inr x_mc18, ⟨Or.inr x_mc19, ⟨Or.inr x_mc20, ⟨Or.inr x_mc21, ⟨Or.inr x_mc22, ⟨Or.inr x_mc23, ⟨Or.inr x_mc24, ⟨Or.inr x_mc25, ⟨Or.inr x_mc26, ⟨Or.inr x_mc27, ⟨Or.inr x_mc28, ⟨Or.inr x_mc29, ⟨Or.inr x_mc30, ⟨Or.inr x_mc31, ⟨Or.inr x_mc32, ⟨Or.inr x_mc33, ⟨Or.inr x_mc34, ⟨Or.inr x_mc35, ⟨Or.inr x_mc36, ⟨Or.inr x_mc37, ⟨Or.inr x_mc38, ⟨Or.inr x_mc39, ⟨Or.inr x_mc40, ⟨Or.inr x_mc41, ⟨Or.inr x_mc42, ⟨Or.inr x_mc43, ⟨Or.inr x_mc44, ⟨Or.inr x_mc45, ⟨Or.inr x_mc46, ⟨Or.inr x_mc47, ⟨Or.inr x_mc48, ⟨Or.inr x_mc49, ⟨Or.inr x_mc50, ⟨Or.inr x_mc51, ⟨Or.inr x_mc52, ⟨Or.inr x_mc53, ⟨Or.inr x_mc54, ⟨Or.inr x_mc55, ⟨Or.inr x_mc56, ⟨Or.inr x_mc57, ⟨Or.inr x_mc58, ⟨Or.inr x_mc59, ⟨Or.inr x_mc60, ⟨Or.inr x_mc61, ⟨Or.inr x_mc62, ⟨Or.inr x_mc63, ⟨Or.inr x_mc64, ⟨Or.inr x_mc65, ⟨Or.inr x_mc66, ⟨Or.inr x_mc67, ⟨Or.inr x_mc68, ⟨Or.inr x_mc69, ⟨Or.inr x_mc70, ⟨Or.inr x_mc71, ⟨Or.inr x_mc72, ⟨Or.inr x_mc73, ⟨Or.inr x_mc74, ⟨Or.inr x_mc75, ⟨Or.inr x_mc76, ⟨Or.inr x_mc77, ⟨Or.inr x_mc78, ⟨Or.inr x_mc79, ⟨Or.inr x_mc80, ⟨Or.inr x_mc81, ⟨Or.inr x_mc82, ⟨Or.inr x_mc83, ⟨Or.inr x_mc84, ⟨Or.inr x_mc85, ⟨Or.inr x_mc86, ⟨Or.inr x_mc87, ⟨Or.inr x_mc88, ⟨Or.inr x_mc89, ⟨Or.inr x_mc90, ⟨Or.inr x_mc91, ⟨Or.inr x_mc92, ⟨Or.inr x_mc93, ⟨Or.inr x_mc94, ⟨Or.inr x_mc95, ⟨Or.inr x_mc96, ⟨Or.inr x_mc97, ⟨Or.inr x_mc98, ⟨Or.inr x_mc99, ⟨Or.inr x_mc100, ⟨Or.inr x_mc101, ⟨Or.inr x_mc102, ⟨Or.inr x_mc103, ⟨Or.inr x_mc104, ⟨Or.inr x_mc105, ⟨Or.inr x_mc106, ⟨Or.inr x_mc107, ⟨Or.inr x_mc108, ⟨Or.inr x_mc109, ⟨Or.inr x_mc110, ⟨Or.inr x_mc111, ⟨Or.inr x_mc112, ⟨Or.inr x_mc113, ⟨Or.inr x_mc114, ⟨Or.inr x_mc115, ⟨Or.inr x_mc116, ⟨Or.inr x_mc117, ⟨Or.inr x_mc118, ⟨Or.inr x_mc119, ⟨Or.inr x_mc120, ⟨Or.inr x_mc121, ⟨Or.inr x_mc122, ⟨Or.inr x_mc123, ⟨Or.inr x_mc124, ⟨Or.inr x_mc125, ⟨Or.inr x_mc126, ⟨Or.inr x_mc127, ⟨Or.inr x_mc128, ⟨Or.inr x_mc129, ⟨Or.inr x_mc130, ⟨Or.inr x_mc131, ⟨Or.inr x_mc132, ⟨Or.inr x_mc133, ⟨Or.inr x_mc134, ⟨Or.inr x_mc135, ⟨Or.inr x_mc136, ⟨Or.inr x_mc137, ⟨Or.inr x_mc138, ⟨Or.inr x_mc139, ⟨Or.inr x_mc140, ⟨Or.inr x_mc141, ⟨Or.inr x_mc142, ⟨Or.inr x_mc143, ⟨Or.inr x_mc144, ⟨Or.inr x_mc145, ⟨Or.inr x_mc146, ⟨Or.inr x_mc147, ⟨Or.inr x_mc148, ⟨Or.inr x_mc149, ⟨Or.inr x_mc150, ⟨Or.inr x_mc151, ⟨Or.inr x_mc152, ⟨Or.inr x_mc153, ⟨Or.inr x_mc154, ⟨Or.inr x_mc155, ⟨Or.inr x_mc156, ⟨Or.inr x_mc157, ⟨Or.inr x_mc158, ⟨Or.inr x_mc159, ⟨Or.inr x_mc160, ⟨Or.inr x_mc161, ⟨Or.inr x_mc162, ⟨Or.inr x_mc163, ⟨Or.inr x_mc164, ⟨Or.inr x_mc165, ⟨Or.inr x_mc166, ⟨Or.inr x_mc167, ⟨Or.inr x_mc168, ⟨Or.inr x_mc169, ⟨Or.inr x_mc170, ⟨Or.inr x_mc171, ⟨Or.inr x_mc172, ⟨Or.inr x_mc173, ⟨Or.inr x_mc174, ⟨Or.inr x_mc175, ⟨Or.inr x_mc176, ⟨Or.inr x_mc177, ⟨Or.inr x_mc178, ⟨Or.inr x_mc179, ⟨Or.inr x_mc180, ⟨Or.inr x_mc181, ⟨Or.inr x_mc182, ⟨Or.inr x_mc183, ⟨Or.inr x_mc184, ⟨Or.inr x_mc185, ⟨Or.inr x_mc186, ⟨Or.inr x_mc187, ⟨Or.inr x_mc188, ⟨Or.inr x_mc189, ⟨Or.inr x_mc190, ⟨Or.inr x_mc191, ⟨Or.inr x_mc192, ⟨Or.inr x_mc193, ⟨Or.inr x_mc194, ⟨Or.inr x_mc195, ⟨Or.inl (Or.inl rfl), ⟨Or.inl (Or.inr rfl), ⟨Or.inr x_mc198, ⟨Or.inr x_mc199, trivial⟩⟩⟩⟩⟩⟩⟩⟩⟩⟩⟩⟩⟩⟩⟩⟩⟩⟩⟩⟩⟩⟩⟩⟩⟩⟩⟩⟩⟩⟩⟩⟩⟩⟩⟩⟩⟩⟩⟩⟩⟩⟩⟩⟩⟩⟩⟩⟩⟩⟩⟩⟩⟩⟩⟩⟩⟩⟩⟩⟩⟩⟩⟩⟩⟩⟩⟩⟩⟩⟩⟩⟩⟩⟩⟩⟩⟩⟩⟩⟩⟩⟩⟩⟩⟩⟩⟩⟩⟩⟩⟩⟩⟩⟩⟩⟩⟩⟩⟩⟩⟩⟩⟩⟩⟩⟩⟩⟩⟩⟩⟩⟩⟩⟩⟩⟩⟩⟩⟩⟩⟩⟩⟩⟩⟩⟩⟩⟩⟩⟩⟩⟩⟩⟩⟩⟩⟩⟩⟩⟩⟩⟩⟩⟩⟩⟩⟩⟩⟩⟩⟩⟩⟩⟩⟩⟩⟩⟩⟩⟩⟩⟩⟩⟩⟩⟩⟩⟩⟩⟩⟩⟩⟩⟩⟩⟩⟩⟩⟩⟩⟩⟩⟩⟩⟩⟩⟩⟩⟩⟩⟩⟩⟩⟩⟩⟩⟩⟩⟩⟩
theorem x_mok {k : Nat} (h : k < 200) (g1 : k ≠ 196) (g2 : k ≠ 197) : x_mck k = true := by
  have h2 := x_am_get 200 0 k x_am_all h
  rw [Nat.zero_add] at h2
  rcases h2 with (q | q) | q
  · exact absurd q g1
  · exact absurd q g2
  · exact q
theorem x_cf0 : vwCl[0]? = some (RN 0, TT 0, NF 0) ∧ (∀ w ∈ u_ws (RN 0) (TT 0) (NF 0), w ∈ x_all) ∧ (∀ k, k < NF 0 → parseFieldDescriptor (TT 0 k).2.2.1 = some (TY 0 k)) ∧ (∀ x, x < NF 0 → ∀ y, y < NF 0 → x ≠ y → (TT 0 x).2.1 ≠ (TT 0 y).2.1) ∧ Cond.instantiable (RN 0) (NF 0) ∈ x_all ∧ Cond.initialized (RN 0) ∈ x_all := by
  refine ⟨rfl, fun w hw => ?_, tyX0_ok, nmX0, x_wd_in (ix := 102) (by decide +kernel), x_wd_in (ix := 78) (by decide +kernel)⟩
  have h := (List.all_eq_true.mp (show (u_ws (RN 0) (TT 0) (NF 0)).all (fun w => decide (w ∈ lw_tbl) && goodWord w) = true by decide +kernel)) w hw
  simp only [Bool.and_eq_true, decide_eq_true_eq] at h
  exact List.mem_filter.mpr h
theorem x_cf1 : vwCl[1]? = some (RN 1, TT 1, NF 1) ∧ (∀ w ∈ u_ws (RN 1) (TT 1) (NF 1), w ∈ x_all) ∧ (∀ k, k < NF 1 → parseFieldDescriptor (TT 1 k).2.2.1 = some (TY 1 k)) ∧ (∀ x, x < NF 1 → ∀ y, y < NF 1 → x ≠ y → (TT 1 x).2.1 ≠ (TT 1 y).2.1) ∧ Cond.instantiable (RN 1) (NF 1) ∈ x_all ∧ Cond.initialized (RN 1) ∈ x_all := by
  refine ⟨rfl, fun w hw => ?_, tyX1_ok, nmX1, x_wd_in (ix := 307) (by decide +kernel), x_wd_in (ix := 84) (by decide +kernel)⟩
  have h := (List.all_eq_true.mp (show (u_ws (RN 1) (TT 1) (NF 1)).all (fun w => decide (w ∈ lw_tbl) && goodWord w) = true by decide +kernel)) w hw
  simp only [Bool.and_eq_true, decide_eq_true_eq] at h
  exact List.mem_filter.mpr h
theorem x_cf2 : vwCl[2]? = some (RN 2, TT 2, NF 2) ∧ (∀ w ∈ u_ws (RN 2) (TT 2) (NF 2), w ∈ x_all) ∧ (∀ k, k < NF 2 → parseFieldDescriptor (TT 2 k).2.2.1 = some (TY 2 k)) ∧ (∀ x, x < NF 2 → ∀ y, y < NF 2 → x ≠ y → (TT 2 x).2.1 ≠ (TT 2 y).2.1) ∧ Cond.instantiable (RN 2) (NF 2) ∈ x_all ∧ Cond.initialized (RN 2) ∈ x_all := by
  refine ⟨rfl, fun w hw => ?_, tyX2_ok, nmX2, x_wd_in (ix := 121) (by decide +kernel), x_wd_in (ix := 79) (by decide +kernel)⟩
  have h := (List.all_eq_true.mp (show (u_ws (RN 2) (TT 2) (NF 2)).all (fun w => decide (w ∈ lw_tbl) && goodWord w) = true by decide +kernel)) w hw
  simp only [Bool.and_eq_true, decide_eq_true_eq] at h
  exact List.mem_filter.mpr h
theorem x_cf3 : vwCl[3]? = some (RN 3, TT 3, NF 3) ∧ (∀ w ∈ u_ws (RN 3) (TT 3) (NF 3), w ∈ x_all) ∧ (∀ k, k < NF 3 → parseFieldDescriptor (TT 3 k).2.2.1 = some (TY 3 k)) ∧ (∀ x, x < NF 3 → ∀ y, y < NF 3 → x ≠ y → (TT 3 x).2.1 ≠ (TT 3 y).2.1) ∧ Cond.instantiable (RN 3) (NF 3) ∈ x_all ∧ Cond.initialized (RN 3) ∈ x_all := by
  refine ⟨rfl, fun w hw => ?_, tyX3_ok, nmX3, x_wd_in (ix := 128) (by decide +kernel), x_wd_in (ix := 80) (by decide +kernel)⟩
  have h := (List.all_eq_true.mp (show (u_ws (RN 3) (TT 3) (NF 3)).all (fun w => decide (w ∈ lw_tbl) && goodWord w) = true by decide +kernel)) w hw
  simp only [Bool.and_eq_true, decide_eq_true_eq] at h
  exact List.mem_filter.mpr h
theorem x_cf4 : vwCl[4]? = some (RN 4, TT 4, NF 4) ∧ (∀ w ∈ u_ws (RN 4) (TT 4) (NF 4), w ∈ x_all) ∧ (∀ k, k < NF 4 → parseFieldDescriptor (TT 4 k).2.2.1 = some (TY 4 k)) ∧ (∀ x, x < NF 4 → ∀ y, y < NF 4 → x ≠ y → (TT 4 x).2.1 ≠ (TT 4 y).2.1) ∧ Cond.instantiable (RN 4) (NF 4) ∈ x_all ∧ Cond.initialized (RN 4) ∈ x_all := by
  refine ⟨rfl, fun w hw => ?_, tyX4_ok, nmX4, x_wd_in (ix := 259) (by decide +kernel), x_wd_in (ix := 83) (by decide +kernel)⟩
  have h := (List.all_eq_true.mp (show (u_ws (RN 4) (TT 4) (NF 4)).all (fun w => decide (w ∈ lw_tbl) && goodWord w) = true by decide +kernel)) w hw
  simp only [Bool.and_eq_true, decide_eq_true_eq] at h
  exact List.mem_filter.mpr h
theorem x_cf5 : vwCl[5]? = some (RN 5, TT 5, NF 5) ∧ (∀ w ∈ u_ws (RN 5) (TT 5) (NF 5), w ∈ x_all) ∧ (∀ k, k < NF 5 → parseFieldDescriptor (TT 5 k).2.2.1 = some (TY 5 k)) ∧ (∀ x, x < NF 5 → ∀ y, y < NF 5 → x ≠ y → (TT 5 x).2.1 ≠ (TT 5 y).2.1) ∧ Cond.instantiable (RN 5) (NF 5) ∈ x_all ∧ Cond.initialized (RN 5) ∈ x_all := by
  refine ⟨rfl, fun w hw => ?_, tyX5_ok, nmX5, x_wd_in (ix := 368) (by decide +kernel), x_wd_in (ix := 86) (by decide +kernel)⟩
  have h := (List.all_eq_true.mp (show (u_ws (RN 5) (TT 5) (NF 5)).all (fun w => decide (w ∈ lw_tbl) && goodWord w) = true by decide +kernel)) w hw
  simp only [Bool.and_eq_true, decide_eq_true_eq] at h
  exact List.mem_filter.mpr h
theorem x_cf6 : vwCl[6]? = some (RN 6, TT 6, NF 6) ∧ (∀ w ∈ u_ws (RN 6) (TT 6) (NF 6), w ∈ x_all) ∧ (∀ k, k < NF 6 → parseFieldDescriptor (TT 6 k).2.2.1 = some (TY 6 k)) ∧ (∀ x, x < NF 6 → ∀ y, y < NF 6 → x ≠ y → (TT 6 x).2.1 ≠ (TT 6 y).2.1) ∧ Cond.instantiable (RN 6) (NF 6) ∈ x_all ∧ Cond.initialized (RN 6) ∈ x_all := by
  refine ⟨rfl, fun w hw => ?_, tyX6_ok, nmX6, x_wd_in (ix := 428) (by decide +kernel), x_wd_in (ix := 88) (by decide +kernel)⟩
  have h := (List.all_eq_true.mp (show (u_ws (RN 6) (TT 6) (NF 6)).all (fun w => decide (w ∈ lw_tbl) && goodWord w) = true by decide +kernel)) w hw
  simp only [Bool.and_eq_true, decide_eq_true_eq] at h
  exact List.mem_filter.mpr h
theorem x_cf7 : vwCl[7]? = some (RN 7, TT 7, NF 7) ∧ (∀ w ∈ u_ws (RN 7) (TT 7) (NF 7), w ∈ x_all) ∧ (∀ k, k < NF 7 → parseFieldDescriptor (TT 7 k).2.2.1 = some (TY 7 k)) ∧ (∀ x, x < NF 7 → ∀ y, y < NF 7 → x ≠ y → (TT 7 x).2.1 ≠ (TT 7 y).2.1) ∧ Cond.instantiable (RN 7) (NF 7) ∈ x_all ∧ Cond.initialized (RN 7) ∈ x_all := by
  refine ⟨rfl, fun w hw => ?_, tyX7_ok, nmX7, x_wd_in (ix := 352) (by decide +kernel), x_wd_in (ix := 85) (by decide +kernel)⟩
  have h := (List.all_eq_true.mp (show (u_ws (RN 7) (TT 7) (NF 7)).all (fun w => decide (w ∈ lw_tbl) && goodWord w) = true by decide +kernel)) w hw
  simp only [Bool.and_eq_true, decide_eq_true_eq] at h
  exact List.mem_filter.mpr h
theorem x_cf8 : vwCl[8]? = some (RN 8, TT 8, NF 8) ∧ (∀ w ∈ u_ws (RN 8) (TT 8) (NF 8), w ∈ x_all) ∧ (∀ k, k < NF 8 → parseFieldDescriptor (TT 8 k).2.2.1 = some (TY 8 k)) ∧ (∀ x, x < NF 8 → ∀ y, y < NF 8 → x ≠ y → (TT 8 x).2.1 ≠ (TT 8 y).2.1) ∧ Cond.instantiable (RN 8) (NF 8) ∈ x_all ∧ Cond.initialized (RN 8) ∈ x_all := by
  refine ⟨rfl, fun w hw => ?_, tyX8_ok, nmX8, x_wd_in (ix := 239) (by decide +kernel), x_wd_in (ix := 82) (by decide +kernel)⟩
  have h := (List.all_eq_true.mp (show (u_ws (RN 8) (TT 8) (NF 8)).all (fun w => decide (w ∈ lw_tbl) && goodWord w) = true by decide +kernel)) w hw
  simp only [Bool.and_eq_true, decide_eq_true_eq] at h
  exact List.mem_filter.mpr h
theorem x_cf9 : vwCl[9]? = some (RN 9, TT 9, NF 9) ∧ (∀ w ∈ u_ws (RN 9) (TT 9) (NF 9), w ∈ x_all) ∧ (∀ k, k < NF 9 → parseFieldDescriptor (TT 9 k).2.2.1 = some (TY 9 k)) ∧ (∀ x, x < NF 9 → ∀ y, y < NF 9 → x ≠ y → (TT 9 x).2.1 ≠ (TT 9 y).2.1) ∧ Cond.instantiable (RN 9) (NF 9) ∈ x_all ∧ Cond.initialized (RN 9) ∈ x_all := by
  refine ⟨rfl, fun w hw => ?_, tyX9_ok, nmX9, x_wd_in (ix := 233) (by decide +kernel), x_wd_in (ix := 81) (by decide +kernel)⟩
  have h := (List.all_eq_true.mp (show (u_ws (RN 9) (TT 9) (NF 9)).all (fun w => decide (w ∈ lw_tbl) && goodWord w) = true by decide +kernel)) w hw
  simp only [Bool.and_eq_true, decide_eq_true_eq] at h
  exact List.mem_filter.mpr h
theorem x_cf10 : vwCl[10]? = some (RN 10, TT 10, NF 10) ∧ (∀ w ∈ u_ws (RN 10) (TT 10) (NF 10), w ∈ x_all) ∧ (∀ k, k < NF 10 → parseFieldDescriptor (TT 10 k).2.2.1 = some (TY 10 k)) ∧ (∀ x, x < NF 10 → ∀ y, y < NF 10 → x ≠ y → (TT 10 x).2.1 ≠ (TT 10 y).2.1) ∧ Cond.instantiable (RN 10) (NF 10) ∈ x_all ∧ Cond.initialized (RN 10) ∈ x_all := by
  refine ⟨rfl, fun w hw => ?_, tyX10_ok, nmX10, x_wd_in (ix := 94) (by decide +kernel), x_wd_in (ix := 77) (by decide +kernel)⟩
  have h := (List.all_eq_true.mp (show (u_ws (RN 10) (TT 10) (NF 10)).all (fun w => decide (w ∈ lw_tbl) && goodWord w) = true by decide +kernel)) w hw
  simp only [Bool.and_eq_true, decide_eq_true_eq] at h
  exact List.mem_filter.mpr h
theorem x_cf11 : vwCl[11]? = some (RN 11, TT 11, NF 11) ∧ (∀ w ∈ u_ws (RN 11) (TT 11) (NF 11), w ∈ x_all) ∧ (∀ k, k < NF 11 → parseFieldDescriptor (TT 11 k).2.2.1 = some (TY 11 k)) ∧ (∀ x, x < NF 11 → ∀ y, y < NF 11 → x ≠ y → (TT 11 x).2.1 ≠ (TT 11 y).2.1) ∧ Cond.instantiable (RN 11) (NF 11) ∈ x_all ∧ Cond.initialized (RN 11) ∈ x_all := by
  refine ⟨rfl, fun w hw => ?_, tyX11_ok, nmX11, x_wd_in (ix := 933) (by decide +kernel), x_wd_in (ix := 87) (by decide +kernel)⟩
  have h := (List.all_eq_true.mp (show (u_ws (RN 11) (TT 11) (NF 11)).all (fun w => decide (w ∈ lw_tbl) && goodWord w) = true by decide +kernel)) w hw
  simp only [Bool.and_eq_true, decide_eq_true_eq] at h
  exact List.mem_filter.mpr h
theorem x_cf : ∀ a, a < 12 → vwCl[a]? = some (RN a, TT a, NF a) ∧ (∀ w ∈ u_ws (RN a) (TT a) (NF a), w ∈ x_all) ∧ (∀ k, k < NF a → parseFieldDescriptor (TT a k).2.2.1 = some (TY a k)) ∧ (∀ x, x < NF a → ∀ y, y < NF a → x ≠ y → (TT a x).2.1 ≠ (TT a y).2.1) ∧ Cond.instantiable (RN a) (NF a) ∈ x_all ∧ Cond.initialized (RN a) ∈ x_all
  | 0, _ => x_cf0
  | 1, _ => x_cf1
  | 2, _ => x_cf2
  | 3, _ => x_cf3
  | 4, _ => x_cf4
  | 5, _ => x_cf5
  | 6, _ => x_cf6
  | 7, _ => x_cf7
  | 8, _ => x_cf8
  | 9, _ => x_cf9
  | 10, _ => x_cf10
  | 11, _ => x_cf11
  | n + 12, h => absurd h (by omega)
theorem x_wobj : Cond.instanceMethod objectInit ∈ x_all ∧ Cond.code objectInit ⟨#[0xb1]⟩ 1 none ∈ x_all := ⟨x_wd_in (ix := 99) (by decide +kernel), x_wd_in (ix := 100) (by decide +kernel)⟩
theorem x_wacp : Cond.native arraycopyName ∈ x_all ∧ Cond.static arraycopyName ∈ x_all ∧ Cond.initialized "java/lang/System" ∈ x_all := ⟨x_wd_in (ix := 577) (by decide +kernel), x_wd_in (ix := 576) (by decide +kernel), x_wd_in (ix := 91) (by decide +kernel)⟩
theorem x_warr20 : Cond.arrayClass .int ∈ x_all := x_wd_in (ix := 119) (by decide +kernel)
theorem x_warr21 : Cond.arrayClass .long ∈ x_all := x_wd_in (ix := 257) (by decide +kernel)
theorem x_warr22 : Cond.arrayClass .boolean ∈ x_all := x_wd_in (ix := 350) (by decide +kernel)
