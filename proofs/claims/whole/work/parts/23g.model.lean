/-! The reference's methods without loops, as functions. -/
/-- FloorTurnModel.build(IIIII)I -/
def F134 (a : Int32) (b : Int32) (c : Int32) (d : Int32) (e : Int32) (h : Hp) : Int32 := if 0 ≤ (F132 a b c d e h) then (1) else (F124 (F132 a b c d e h) h)
def G134 (a : Int32) (b : Int32) (c : Int32) (d : Int32) (e : Int32) (h : Hp) : Hp := if 0 ≤ (F132 a b c d e h) then (G133 a b c d e h) else (G124 (F132 a b c d e h) h)
theorem n_G134 (a : Int32) (b : Int32) (c : Int32) (d : Int32) (e : Int32) (h : Hp) : (G134 a b c d e h).1 = h.1 := by
  unfold G134
  (repeat' split) <;> first | (simp only [n_sI, n_aI, n_bI, n_sL, n_sR, n_G124, n_G133]; done) | rfl
theorem r_G134 (a : Int32) (b : Int32) (c : Int32) (d : Int32) (e : Int32) (h : Hp) : gR (G134 a b c d e h) = gR h := by
  unfold G134
  (repeat' split) <;> first | (simp only [gR_sI, gR_aI, gR_bI, gR_sL, r_G124, r_G133]; done) | rfl
def P134 (a : Int32) (b : Int32) (c : Int32) (d : Int32) (e : Int32) (h : Hp) : Prop := (P132 a b c d e h) ∧ (((0 ≤ (F132 a b c d e h)) → ((P133 a b c d e h) ∧ (True))) ∧ (¬ (0 ≤ (F132 a b c d e h)) → ((P124 (F132 a b c d e h) h) ∧ (True))))
set_option maxHeartbeats 8000000 in
set_option maxRecDepth 100000 in
theorem m134 {L : Nat} {xs : Nat → Int32} {h : Hp} {a : Int32} {b : Int32} {c : Int32} {d : Int32} {e : Int32} (hn : 444 ≤ h.1) (hL : LK h) (hP : P134 a b c d e h) : Sp L xs 134 [.ref 397, .int a, .int b, .int c, .int d, .int e] h (some (.int (F134 a b c d e h))) (G134 a b c d e h) := by
  unfold P134 at hP
  refine sp_of (ls := [some (.ref 397), some (.int a), some (.int b), some (.int c), some (.int d), some (.int e), none]) rfl ?_
  refine e_ld (pc' := 1) i134_0 rfl rfl ?_
  refine e_ld (pc' := 2) i134_1 rfl rfl ?_
  refine e_ld (pc' := 3) i134_2 rfl rfl ?_
  refine e_ld (pc' := 4) i134_3 rfl rfl ?_
  refine e_ld (pc' := 6) i134_4 rfl rfl ?_
  refine e_ld (pc' := 8) i134_6 rfl rfl ?_
  obtain ⟨g1, hP⟩ := hP
  refine e_cI (w := .int (F132 a b c d e h)) (As := [.ref 397, .int a, .int b, .int c, .int d, .int e]) (rest := []) (pc' := 11) i134_8 rfl rfl rfl rfl (by show (Nat.beq (x_kd 132) 0 && x_is 397 _ (MC 132) 0) = true; rw [show x_kd 132 = 0 by decide +kernel, show MC 132 = 11 by decide +kernel, (x_isC (by decide) hn sh397)]; rfl) (m132 hn hL g1) ?_
  refine e_st (ls' := [some (.ref 397), some (.int a), some (.int b), some (.int c), some (.int d), some (.int e), some (.int (F132 a b c d e h))]) (pc' := 13) i134_11 rfl rfl rfl ?_
  refine e_ld (pc' := 15) i134_13 rfl rfl ?_
  refine e_if (pc' := 18) i134_15 rfl (fun c2 => ?_) (fun c2 => ?_)
  · replace hP := hP.1 (of_decide_eq_true c2)
    refine e_ld (pc' := 26) i134_25 rfl rfl ?_
    refine e_ld (pc' := 27) i134_26 rfl rfl ?_
    refine e_ld (pc' := 28) i134_27 rfl rfl ?_
    refine e_ld (pc' := 29) i134_28 rfl rfl ?_
    refine e_ld (pc' := 31) i134_29 rfl rfl ?_
    refine e_ld (pc' := 33) i134_31 rfl rfl ?_
    obtain ⟨g3, hP⟩ := hP
    refine e_cV (As := [.ref 397, .int a, .int b, .int c, .int d, .int e]) (rest := []) (pc' := 36) i134_33 rfl rfl rfl rfl (by show (Nat.beq (x_kd 133) 0 && x_is 397 _ (MC 133) 0) = true; rw [show x_kd 133 = 0 by decide +kernel, show MC 133 = 11 by decide +kernel, (x_isC (by decide) hn sh397)]; rfl) (m133 hn hL g3) ?_
    have hn4 : 444 ≤ (G133 a b c d e h).1 := by rw [n_G133]; exact hn
    have hL4 : LK (G133 a b c d e h) := by unfold LK; rw [r_G133]; exact hL
    refine e_cn (pc' := 37) i134_36 rfl ?_
    refine e_rt i134_37 rfl ?_
    exact ⟨by unfold F134; simp only [if_pos (show 0 ≤ (F132 a b c d e h) from (of_decide_eq_true c2))], by unfold G134; simp only [if_pos (show 0 ≤ (F132 a b c d e h) from (of_decide_eq_true c2))]⟩
  · replace hP := hP.2 (of_decide_eq_false c2)
    refine e_ld (pc' := 19) i134_18 rfl rfl ?_
    refine e_ld (pc' := 21) i134_19 rfl rfl ?_
    obtain ⟨g5, hP⟩ := hP
    refine e_cI (w := .int (F124 (F132 a b c d e h) h)) (As := [.ref 397, .int (F132 a b c d e h)]) (rest := []) (pc' := 24) i134_21 rfl rfl rfl rfl (by show (Nat.beq (x_kd 124) 0 && x_is 397 _ (MC 124) 0) = true; rw [show x_kd 124 = 0 by decide +kernel, show MC 124 = 11 by decide +kernel, (x_isC (by decide) hn sh397)]; rfl) (m124 hn hL g5) ?_
    have hn6 : 444 ≤ (G124 (F132 a b c d e h) h).1 := by rw [n_G124]; exact hn
    have hL6 : LK (G124 (F132 a b c d e h) h) := by unfold LK; rw [r_G124]; exact hL
    refine e_rt i134_24 rfl ?_
    exact ⟨by unfold F134; simp only [if_neg (show ¬ (0 ≤ (F132 a b c d e h)) from (of_decide_eq_false c2))], by unfold G134; simp only [if_neg (show ¬ (0 ≤ (F132 a b c d e h)) from (of_decide_eq_false c2))]⟩
