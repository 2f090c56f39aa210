/-! The leaves: tests of numbers, refusals. -/
def x_in3 (v l g : Int32) : Bool := decide (l ≤ v) && decide (v ≤ g)
theorem x_in3_f1 {v l g : Int32} (h : v < l) : x_in3 v l g = false := by
  have h2 : ¬ l ≤ v := Int32.not_le.mpr h
  simp [x_in3, h2]
theorem x_in3_f2 {v l g : Int32} (h : g < v) : x_in3 v l g = false := by
  have h2 : ¬ v ≤ g := Int32.not_le.mpr h
  simp [x_in3, h2]
theorem x_in3_t {v l g : Int32} (h1 : ¬ v < l) (h2 : ¬ g < v) : x_in3 v l g = true := by
  simp [x_in3, Int32.not_lt.mp h1, Int32.not_lt.mp h2]
theorem x_in3_iff {v l g : Int32} : x_in3 v l g = true ↔ l ≤ v ∧ v ≤ g := by simp [x_in3]
theorem i114_0 : INS 114 0 = some (0, 1, 0, 0, .null, []) := rfl
theorem i114_1 : INS 114 1 = some (0, 1, 1, 0, .null, []) := rfl
theorem i114_2 : INS 114 2 = some (10, 3, 14, 2, .null, []) := rfl
theorem i114_5 : INS 114 5 = some (0, 1, 0, 0, .null, []) := rfl
theorem i114_6 : INS 114 6 = some (0, 1, 2, 0, .null, []) := rfl
theorem i114_7 : INS 114 7 = some (10, 3, 14, 4, .null, []) := rfl
theorem i114_10 : INS 114 10 = some (2, 1, 0, 0, .int 1, []) := rfl
theorem i114_11 : INS 114 11 = some (12, 3, 15, 0, .null, []) := rfl
theorem i114_14 : INS 114 14 = some (2, 1, 0, 0, .int 0, []) := rfl
theorem i114_15 : INS 114 15 = some (27, 1, 0, 0, .null, []) := rfl
theorem i115_0 : INS 115 0 = some (0, 1, 0, 0, .null, []) := rfl
theorem i115_1 : INS 115 1 = some (2, 1, 0, 0, .int 0, []) := rfl
theorem i115_2 : INS 115 2 = some (2, 3, 0, 0, .int 143, []) := rfl
theorem i115_5 : INS 115 5 = some (24, 3, 114, 2, .null, []) := rfl
theorem i115_8 : INS 115 8 = some (27, 1, 0, 0, .null, []) := rfl
theorem i116_0 : INS 116 0 = some (0, 1, 0, 0, .null, []) := rfl
theorem i116_1 : INS 116 1 = some (2, 1, 0, 0, .int 0, []) := rfl
theorem i116_2 : INS 116 2 = some (2, 2, 0, 0, .int 7, []) := rfl
theorem i116_4 : INS 116 4 = some (24, 3, 114, 2, .null, []) := rfl
theorem i116_7 : INS 116 7 = some (27, 1, 0, 0, .null, []) := rfl
theorem i117_0 : INS 117 0 = some (0, 1, 0, 0, .null, []) := rfl
theorem i117_1 : INS 117 1 = some (2, 1, 0, 0, .int 1, []) := rfl
theorem i117_2 : INS 117 2 = some (2, 2, 0, 0, .int 20, []) := rfl
theorem i117_4 : INS 117 4 = some (24, 3, 114, 2, .null, []) := rfl
theorem i117_7 : INS 117 7 = some (27, 1, 0, 0, .null, []) := rfl
theorem i123_0 : INS 123 0 = some (0, 1, 0, 0, .null, []) := rfl
theorem i123_1 : INS 123 1 = some (0, 1, 1, 0, .null, []) := rfl
theorem i123_2 : INS 123 2 = some (10, 3, 14, 2, .null, []) := rfl
theorem i123_5 : INS 123 5 = some (0, 1, 0, 0, .null, []) := rfl
theorem i123_6 : INS 123 6 = some (0, 1, 2, 0, .null, []) := rfl
theorem i123_7 : INS 123 7 = some (10, 3, 14, 4, .null, []) := rfl
theorem i123_10 : INS 123 10 = some (2, 1, 0, 0, .int 1, []) := rfl
theorem i123_11 : INS 123 11 = some (12, 3, 15, 0, .null, []) := rfl
theorem i123_14 : INS 123 14 = some (2, 1, 0, 0, .int 0, []) := rfl
theorem i123_15 : INS 123 15 = some (27, 1, 0, 0, .null, []) := rfl
theorem i125_0 : INS 125 0 = some (0, 1, 0, 0, .null, []) := rfl
theorem i125_1 : INS 125 1 = some (2, 1, 0, 0, .int 0, []) := rfl
theorem i125_2 : INS 125 2 = some (2, 3, 0, 0, .int 143, []) := rfl
theorem i125_5 : INS 125 5 = some (24, 3, 123, 2, .null, []) := rfl
theorem i125_8 : INS 125 8 = some (27, 1, 0, 0, .null, []) := rfl
theorem i126_0 : INS 126 0 = some (0, 1, 0, 0, .null, []) := rfl
theorem i126_1 : INS 126 1 = some (2, 1, 0, 0, .int 1, []) := rfl
theorem i126_2 : INS 126 2 = some (2, 2, 0, 0, .int 20, []) := rfl
theorem i126_4 : INS 126 4 = some (24, 3, 123, 2, .null, []) := rfl
theorem i126_7 : INS 126 7 = some (27, 1, 0, 0, .null, []) := rfl
theorem i136_0 : INS 136 0 = some (0, 1, 0, 0, .null, []) := rfl
theorem i136_1 : INS 136 1 = some (2, 1, 0, 0, .int 0, []) := rfl
theorem i136_2 : INS 136 2 = some (2, 2, 0, 0, .int 7, []) := rfl
theorem i136_4 : INS 136 4 = some (24, 3, 123, 2, .null, []) := rfl
theorem i136_7 : INS 136 7 = some (27, 1, 0, 0, .null, []) := rfl
theorem m114 {L : Nat} {xs : Nat → Int32} {h : Hp} {v l g : Int32} : Sp L xs 114 [.int v, .int l, .int g] h (some (.int (b2i (x_in3 v l g)))) h := by
  refine sp_of (ls := [some (.int v), some (.int l), some (.int g)]) rfl ?_
  refine e_ld (pc' := 1) i114_0 rfl rfl ?_
  refine e_ld (pc' := 2) i114_1 rfl rfl ?_
  refine e_ic (pc' := 5) i114_2 rfl (fun c2 => ?_) (fun c2 => ?_)
  · skip
    refine e_cn (pc' := 15) i114_14 rfl ?_
    refine e_rt i114_15 rfl ?_
    first | (rw [x_in3_f1 (of_decide_eq_true c2)]; exact ⟨rfl, rfl⟩) | (rw [x_in3_f2 (of_decide_eq_true c7)]; exact ⟨rfl, rfl⟩) | (rw [x_in3_t (of_decide_eq_false c2) (of_decide_eq_false c7)]; exact ⟨rfl, rfl⟩)
  · skip
    refine e_ld (pc' := 6) i114_5 rfl rfl ?_
    refine e_ld (pc' := 7) i114_6 rfl rfl ?_
    refine e_ic (pc' := 10) i114_7 rfl (fun c7 => ?_) (fun c7 => ?_)
    · skip
      refine e_cn (pc' := 15) i114_14 rfl ?_
      refine e_rt i114_15 rfl ?_
      first | (rw [x_in3_f1 (of_decide_eq_true c2)]; exact ⟨rfl, rfl⟩) | (rw [x_in3_f2 (of_decide_eq_true c7)]; exact ⟨rfl, rfl⟩) | (rw [x_in3_t (of_decide_eq_false c2) (of_decide_eq_false c7)]; exact ⟨rfl, rfl⟩)
    · skip
      refine e_cn (pc' := 11) i114_10 rfl ?_
      refine e_go i114_11 ?_
      refine e_rt i114_15 rfl ?_
      first | (rw [x_in3_f1 (of_decide_eq_true c2)]; exact ⟨rfl, rfl⟩) | (rw [x_in3_f2 (of_decide_eq_true c7)]; exact ⟨rfl, rfl⟩) | (rw [x_in3_t (of_decide_eq_false c2) (of_decide_eq_false c7)]; exact ⟨rfl, rfl⟩)
theorem m123 {L : Nat} {xs : Nat → Int32} {h : Hp} {v l g : Int32} : Sp L xs 123 [.int v, .int l, .int g] h (some (.int (b2i (x_in3 v l g)))) h := by
  refine sp_of (ls := [some (.int v), some (.int l), some (.int g)]) rfl ?_
  refine e_ld (pc' := 1) i123_0 rfl rfl ?_
  refine e_ld (pc' := 2) i123_1 rfl rfl ?_
  refine e_ic (pc' := 5) i123_2 rfl (fun c2 => ?_) (fun c2 => ?_)
  · skip
    refine e_cn (pc' := 15) i123_14 rfl ?_
    refine e_rt i123_15 rfl ?_
    first | (rw [x_in3_f1 (of_decide_eq_true c2)]; exact ⟨rfl, rfl⟩) | (rw [x_in3_f2 (of_decide_eq_true c7)]; exact ⟨rfl, rfl⟩) | (rw [x_in3_t (of_decide_eq_false c2) (of_decide_eq_false c7)]; exact ⟨rfl, rfl⟩)
  · skip
    refine e_ld (pc' := 6) i123_5 rfl rfl ?_
    refine e_ld (pc' := 7) i123_6 rfl rfl ?_
    refine e_ic (pc' := 10) i123_7 rfl (fun c7 => ?_) (fun c7 => ?_)
    · skip
      refine e_cn (pc' := 15) i123_14 rfl ?_
      refine e_rt i123_15 rfl ?_
      first | (rw [x_in3_f1 (of_decide_eq_true c2)]; exact ⟨rfl, rfl⟩) | (rw [x_in3_f2 (of_decide_eq_true c7)]; exact ⟨rfl, rfl⟩) | (rw [x_in3_t (of_decide_eq_false c2) (of_decide_eq_false c7)]; exact ⟨rfl, rfl⟩)
    · skip
      refine e_cn (pc' := 11) i123_10 rfl ?_
      refine e_go i123_11 ?_
      refine e_rt i123_15 rfl ?_
      first | (rw [x_in3_f1 (of_decide_eq_true c2)]; exact ⟨rfl, rfl⟩) | (rw [x_in3_f2 (of_decide_eq_true c7)]; exact ⟨rfl, rfl⟩) | (rw [x_in3_t (of_decide_eq_false c2) (of_decide_eq_false c7)]; exact ⟨rfl, rfl⟩)
def x_isCell (v : Int32) : Bool := x_in3 v 0 143
theorem m115 {L : Nat} {xs : Nat → Int32} {h : Hp} {v : Int32} : Sp L xs 115 [.int v] h (some (.int (b2i (x_isCell v)))) h := by
  refine sp_of (ls := [some (.int v)]) rfl ?_
  refine e_ld (pc' := 1) i115_0 rfl rfl ?_
  refine e_cn (pc' := 2) i115_1 rfl ?_
  refine e_cn (pc' := 5) i115_2 rfl ?_
  refine e_cI (w := .int (b2i (x_in3 v 0 143))) (As := [.int v, .int 0, .int 143]) (rest := []) (pc' := 8) i115_5 rfl rfl rfl rfl rfl m114 ?_
  refine e_rt (r := some (.int (b2i (x_in3 v 0 143)))) i115_8 (by simp only [x_rt, show MR 115 = some .boolean by decide +kernel, b2i_01, cond_true]) ?_
  exact ⟨by rfl, rfl⟩
def x_isShelf (v : Int32) : Bool := x_in3 v 0 7
theorem m116 {L : Nat} {xs : Nat → Int32} {h : Hp} {v : Int32} : Sp L xs 116 [.int v] h (some (.int (b2i (x_isShelf v)))) h := by
  refine sp_of (ls := [some (.int v)]) rfl ?_
  refine e_ld (pc' := 1) i116_0 rfl rfl ?_
  refine e_cn (pc' := 2) i116_1 rfl ?_
  refine e_cn (pc' := 4) i116_2 rfl ?_
  refine e_cI (w := .int (b2i (x_in3 v 0 7))) (As := [.int v, .int 0, .int 7]) (rest := []) (pc' := 7) i116_4 rfl rfl rfl rfl rfl m114 ?_
  refine e_rt (r := some (.int (b2i (x_in3 v 0 7)))) i116_7 (by simp only [x_rt, show MR 116 = some .boolean by decide +kernel, b2i_01, cond_true]) ?_
  exact ⟨by rfl, rfl⟩
def x_isItem (v : Int32) : Bool := x_in3 v 1 20
theorem m117 {L : Nat} {xs : Nat → Int32} {h : Hp} {v : Int32} : Sp L xs 117 [.int v] h (some (.int (b2i (x_isItem v)))) h := by
  refine sp_of (ls := [some (.int v)]) rfl ?_
  refine e_ld (pc' := 1) i117_0 rfl rfl ?_
  refine e_cn (pc' := 2) i117_1 rfl ?_
  refine e_cn (pc' := 4) i117_2 rfl ?_
  refine e_cI (w := .int (b2i (x_in3 v 1 20))) (As := [.int v, .int 1, .int 20]) (rest := []) (pc' := 7) i117_4 rfl rfl rfl rfl rfl m114 ?_
  refine e_rt (r := some (.int (b2i (x_in3 v 1 20)))) i117_7 (by simp only [x_rt, show MR 117 = some .boolean by decide +kernel, b2i_01, cond_true]) ?_
  exact ⟨by rfl, rfl⟩
theorem m125 {L : Nat} {xs : Nat → Int32} {h : Hp} {v : Int32} : Sp L xs 125 [.int v] h (some (.int (b2i (x_isCell v)))) h := by
  refine sp_of (ls := [some (.int v)]) rfl ?_
  refine e_ld (pc' := 1) i125_0 rfl rfl ?_
  refine e_cn (pc' := 2) i125_1 rfl ?_
  refine e_cn (pc' := 5) i125_2 rfl ?_
  refine e_cI (w := .int (b2i (x_in3 v 0 143))) (As := [.int v, .int 0, .int 143]) (rest := []) (pc' := 8) i125_5 rfl rfl rfl rfl rfl m123 ?_
  refine e_rt (r := some (.int (b2i (x_in3 v 0 143)))) i125_8 (by simp only [x_rt, show MR 125 = some .boolean by decide +kernel, b2i_01, cond_true]) ?_
  exact ⟨by rfl, rfl⟩
theorem m126 {L : Nat} {xs : Nat → Int32} {h : Hp} {v : Int32} : Sp L xs 126 [.int v] h (some (.int (b2i (x_isItem v)))) h := by
  refine sp_of (ls := [some (.int v)]) rfl ?_
  refine e_ld (pc' := 1) i126_0 rfl rfl ?_
  refine e_cn (pc' := 2) i126_1 rfl ?_
  refine e_cn (pc' := 4) i126_2 rfl ?_
  refine e_cI (w := .int (b2i (x_in3 v 1 20))) (As := [.int v, .int 1, .int 20]) (rest := []) (pc' := 7) i126_4 rfl rfl rfl rfl rfl m123 ?_
  refine e_rt (r := some (.int (b2i (x_in3 v 1 20)))) i126_7 (by simp only [x_rt, show MR 126 = some .boolean by decide +kernel, b2i_01, cond_true]) ?_
  exact ⟨by rfl, rfl⟩
theorem m136 {L : Nat} {xs : Nat → Int32} {h : Hp} {v : Int32} : Sp L xs 136 [.int v] h (some (.int (b2i (x_isShelf v)))) h := by
  refine sp_of (ls := [some (.int v)]) rfl ?_
  refine e_ld (pc' := 1) i136_0 rfl rfl ?_
  refine e_cn (pc' := 2) i136_1 rfl ?_
  refine e_cn (pc' := 4) i136_2 rfl ?_
  refine e_cI (w := .int (b2i (x_in3 v 0 7))) (As := [.int v, .int 0, .int 7]) (rest := []) (pc' := 7) i136_4 rfl rfl rfl rfl rfl m123 ?_
  refine e_rt (r := some (.int (b2i (x_in3 v 0 7)))) i136_7 (by simp only [x_rt, show MR 136 = some .boolean by decide +kernel, b2i_01, cond_true]) ?_
  exact ⟨by rfl, rfl⟩
