/-! The reference's methods without loops, as functions. -/
/-- FloorTurnModel.build(IIIII)I -/
def F134 (a : Int32) (b : Int32) (c : Int32) (d : Int32) (e : Int32) (h : Hp) : Int32 := if 0 ≤ (F132 a b c d e h) then (1) else (F124 (F132 a b c d e h) h)
def G134 (a : Int32) (b : Int32) (c : Int32) (d : Int32) (e : Int32) (h : Hp) : Hp := if 0 ≤ (F132 a b c d e h) then (G133 a b c d e h) else (G124 (F132 a b c d e h) h)
theorem n_G134 (a : Int32) (b : Int32) (c : Int32) (d : Int32) (e : Int32) (h : Hp) : (G134 a b c d e h).1 = h.1 := by
  unfold G134
  (repeat' split) <;> first | rfl | (simp only [n_sI, n_sL, n_sR, n_G124, n_G133])
theorem r_G134 (a : Int32) (b : Int32) (c : Int32) (d : Int32) (e : Int32) (h : Hp) : gR (G134 a b c d e h) = gR h := by
  unfold G134
  (repeat' split) <;> first | rfl | (simp only [gR_sI, gR_sL, r_G124, r_G133])
def P134 (a : Int32) (b : Int32) (c : Int32) (d : Int32) (e : Int32) (h : Hp) : Prop := (P132 a b c d e h) ∧ (((0 ≤ (F132 a b c d e h)) → ((P133 a b c d e h) ∧ (True))) ∧ (¬ (0 ≤ (F132 a b c d e h)) → ((P124 (F132 a b c d e h) h) ∧ (True))))
set_option maxHeartbeats 8000000 in
theorem m134 {L : Nat} {xs : Nat → Int32} {h : Hp} {a : Int32} {b : Int32} {c : Int32} {d : Int32} {e : Int32} (hn : 444 ≤ h.1) (hL : LK h) (hP : P134 a b c d e h) : Sp L xs 134 [.ref 397, .int a, .int b, .int c, .int d, .int e] h (some (.int (F134 a b c d e h))) (G134 a b c d e h) := by
  unfold P134 at hP
  refine sp_of (ls := [some (.ref 397), some (.int a), some (.int b), some (.int c), some (.int d), some (.int e), none]) rfl ?_
  refine e_ld (pc' := 1) i134_0 rfl rfl ?_
  refine e_ld (pc' := 2) i134_1 rfl rfl ?_
  refine e_ld (pc' := 3) i134_2 rfl rfl ?_
  refine e_ld (pc' := 4) i134_3 rfl rfl ?_
  refine e_ld (pc' := 6) i134_4 rfl rfl ?_
  refine e_ld (pc' := 8) i134_6 rfl rfl ?_
  obtain ⟨g1, hP⟩ := hP
  refine e_cI (w := .int (F132 a b c d e h)) (As := [.ref 397, .int a, .int b, .int c, .int d, .int e]) (rest := []) (pc' := 11) i134_8 rfl rfl rfl rfl (by show (Nat.beq (x_kd 132) 0 && x_is 397 _ (MC 132) 0) = true; rw [show x_kd 132 = 0 by decide +kernel, show MC 132 = 11 by decide +kernel, (x_isC (by decide) hn sh397)]; rfl) (m132 hn hL g1) ?_
  refine e_st (ls' := [some (.ref 397), some (.int a), some (.int b), some (.int c), some (.int d), some (.int e), some (.int (F132 a b c d e h))]) (pc' := 13) i134_11 rfl rfl rfl ?_
  refine e_ld (pc' := 15) i134_13 rfl rfl ?_
  refine e_if (pc' := 18) i134_15 rfl (fun c2 => ?_) (fun c2 => ?_)
  · replace hP := hP.1 (of_decide_eq_true c2)
    refine e_ld (pc' := 26) i134_25 rfl rfl ?_
    refine e_ld (pc' := 27) i134_26 rfl rfl ?_
    refine e_ld (pc' := 28) i134_27 rfl rfl ?_
    refine e_ld (pc' := 29) i134_28 rfl rfl ?_
    refine e_ld (pc' := 31) i134_29 rfl rfl ?_
    refine e_ld (pc' := 33) i134_31 rfl rfl ?_
    obtain ⟨g3, hP⟩ := hP
    refine e_cV (As := [.ref 397, .int a, .int b, .int c, .int d, .int e]) (rest := []) (pc' := 36) i134_33 rfl rfl rfl rfl (by show (Nat.beq (x_kd 133) 0 && x_is 397 _ (MC 133) 0) = true; rw [show x_kd 133 = 0 by decide +kernel, show MC 133 = 11 by decide +kernel, (x_isC (by decide) hn sh397)]; rfl) (m133 hn hL g3) ?_
    have hn4 : 444 ≤ (G133 a b c d e h).1 := by rw [n_G133]; exact hn
    have hL4 : LK (G133 a b c d e h) := by unfold LK; rw [r_G133]; exact hL
    refine e_cn (pc' := 37) i134_36 rfl ?_
    refine e_rt i134_37 rfl ?_
    exact ⟨by unfold F134; simp only [if_pos (show 0 ≤ (F132 a b c d e h) from (of_decide_eq_true c2))], by unfold G134; simp only [if_pos (show 0 ≤ (F132 a b c d e h) from (of_decide_eq_true c2))]⟩
  · replace hP := hP.2 (of_decide_eq_false c2)
    refine e_ld (pc' := 19) i134_18 rfl rfl ?_
    refine e_ld (pc' := 21) i134_19 rfl rfl ?_
    obtain ⟨g5, hP⟩ := hP
    refine e_cI (w := .int (F124 (F132 a b c d e h) h)) (As := [.ref 397, .int (F132 a b c d e h)]) (rest := []) (pc' := 24) i134_21 rfl rfl rfl rfl (by show (Nat.beq (x_kd 124) 0 && x_is 397 _ (MC 124) 0) = true; rw [show x_kd 124 = 0 by decide +kernel, show MC 124 = 11 by decide +kernel, (x_isC (by decide) hn sh397)]; rfl) (m124 hn hL g5) ?_
    have hn6 : 444 ≤ (G124 (F132 a b c d e h) h).1 := by rw [n_G124]; exact hn
    have hL6 : LK (G124 (F132 a b c d e h) h) := by unfold LK; rw [r_G124]; exact hL
    refine e_rt i134_24 rfl ?_
    exact ⟨by unfold F134; simp only [if_neg (show ¬ (0 ≤ (F132 a b c d e h)) from (of_decide_eq_false c2))], by unfold G134; simp only [if_neg (show ¬ (0 ≤ (F132 a b c d e h)) from (of_decide_eq_false c2))]⟩
/-- FloorTurnModel.raze(I)I -/
def F135 (a : Int32) (h : Hp) : Int32 := if (x_isCell a) = true then (gI h 405 a.toNatClampNeg) else (F124 (-1) h)
def G135 (a : Int32) (h : Hp) : Hp := if (x_isCell a) = true then (sI (sI h 405 a.toNatClampNeg 0) 412 a.toNatClampNeg 0) else (G124 (-1) h)
theorem n_G135 (a : Int32) (h : Hp) : (G135 a h).1 = h.1 := by
  unfold G135
  (repeat' split) <;> first | rfl | (simp only [n_sI, n_sL, n_sR, n_G124])
theorem r_G135 (a : Int32) (h : Hp) : gR (G135 a h) = gR h := by
  unfold G135
  (repeat' split) <;> first | rfl | (simp only [gR_sI, gR_sL, r_G124])
def P135 (a : Int32) (h : Hp) : Prop := (((x_isCell a) = true) → ((vp_in a 144) ∧ ((vp_in a 144) ∧ ((vp_in a 432) ∧ (True))))) ∧ (¬ ((x_isCell a) = true) → ((P124 (-1) h) ∧ (True)))
set_option maxHeartbeats 8000000 in
theorem m135 {L : Nat} {xs : Nat → Int32} {h : Hp} {a : Int32} (hn : 444 ≤ h.1) (hL : LK h) (hP : P135 a h) : Sp L xs 135 [.ref 397, .int a] h (some (.int (F135 a h))) (G135 a h) := by
  unfold P135 at hP
  refine sp_of (ls := [some (.ref 397), some (.int a), none]) rfl ?_
  refine e_ld (pc' := 1) i135_0 rfl rfl ?_
  refine e_cI (w := .int (b2i (x_isCell a))) (As := [.int a]) (rest := []) (pc' := 4) i135_1 rfl rfl rfl rfl rfl m125 ?_
  refine e_b1 (pc' := 7) i135_4 rfl (fun c1 => ?_) (fun c1 => ?_)
  · replace hP := hP.1 c1
    refine e_ld (pc' := 14) i135_13 rfl rfl ?_
    refine e_get (w := .ref 405) (pc' := 17) i135_14 rfl (x_isC (by decide) hn sh397) (x_fvR (by decide +kernel) (hL 397 8 405 lk397_8)) ?_
    refine e_ld (pc' := 18) i135_17 rfl rfl ?_
    obtain ⟨g2, hP⟩ := hP
    refine e_al (n := a.toNatClampNeg) (w := .int (gI h 405 a.toNatClampNeg)) (pc' := 19) i135_18 rfl (x_alX (a := 20) (by decide) hn sh405 (by decide) g2) rfl rfl ?_
    refine e_st (ls' := [some (.ref 397), some (.int a), some (.int (gI h 405 a.toNatClampNeg))]) (pc' := 20) i135_19 rfl rfl rfl ?_
    refine e_ld (pc' := 21) i135_20 rfl rfl ?_
    refine e_get (w := .ref 405) (pc' := 24) i135_21 rfl (x_isC (by decide) hn sh397) (x_fvR (by decide +kernel) (hL 397 8 405 lk397_8)) ?_
    refine e_ld (pc' := 25) i135_24 rfl rfl ?_
    refine e_cn (pc' := 26) i135_25 rfl ?_
    obtain ⟨g3, hP⟩ := hP
    refine e_as (n := a.toNatClampNeg) (h' := sI h 405 a.toNatClampNeg 0) (pc' := 27) i135_26 rfl (x_alX (a := 20) (by decide) hn sh405 (by decide) g3) rfl (by rw [show (SH 405).1 = 20 by rw [sh405]]; rfl) ?_
    have hn4 : 444 ≤ (sI h 405 a.toNatClampNeg 0).1 := hn
    have hL4 : LK (sI h 405 a.toNatClampNeg 0) := hL
    refine e_ld (pc' := 28) i135_27 rfl rfl ?_
    refine e_get (w := .ref 412) (pc' := 31) i135_28 rfl (x_isC (by decide) hn4 sh397) (x_fvR (by decide +kernel) (hL4 397 16 412 lk397_16)) ?_
    refine e_ld (pc' := 32) i135_31 rfl rfl ?_
    refine e_cn (pc' := 33) i135_32 rfl ?_
    obtain ⟨g5, hP⟩ := hP
    refine e_as (n := a.toNatClampNeg) (h' := sI (sI h 405 a.toNatClampNeg 0) 412 a.toNatClampNeg 0) (pc' := 34) i135_33 rfl (x_alX (a := 20) (by decide) hn4 sh412 (by decide) g5) rfl (by rw [show (SH 412).1 = 20 by rw [sh412]]; rfl) ?_
    have hn6 : 444 ≤ (sI (sI h 405 a.toNatClampNeg 0) 412 a.toNatClampNeg 0).1 := hn4
    have hL6 : LK (sI (sI h 405 a.toNatClampNeg 0) 412 a.toNatClampNeg 0) := hL4
    refine e_ld (pc' := 35) i135_34 rfl rfl ?_
    refine e_rt i135_35 rfl ?_
    exact ⟨by unfold F135; simp only [if_pos c1], by unfold G135; simp only [if_pos c1]⟩
  · replace hP := hP.2 (show ¬ (x_isCell a) = true by rw [c1]; decide)
    refine e_ld (pc' := 8) i135_7 rfl rfl ?_
    refine e_cn (pc' := 9) i135_8 rfl ?_
    obtain ⟨g7, hP⟩ := hP
    refine e_cI (w := .int (F124 (-1) h)) (As := [.ref 397, .int (-1)]) (rest := []) (pc' := 12) i135_9 rfl rfl rfl rfl (by show (Nat.beq (x_kd 124) 0 && x_is 397 _ (MC 124) 0) = true; rw [show x_kd 124 = 0 by decide +kernel, show MC 124 = 11 by decide +kernel, (x_isC (by decide) hn sh397)]; rfl) (m124 hn hL g7) ?_
    have hn8 : 444 ≤ (G124 (-1) h).1 := by rw [n_G124]; exact hn
    have hL8 : LK (G124 (-1) h) := by unfold LK; rw [r_G124]; exact hL
    refine e_rt i135_12 rfl ?_
    exact ⟨by unfold F135; simp only [if_neg (show ¬ (x_isCell a) = true by rw [c1]; decide)], by unfold G135; simp only [if_neg (show ¬ (x_isCell a) = true by rw [c1]; decide)]⟩
/-- FloorTurnModel.isRow(I)Z -/
def F137 (a : Int32) (h : Hp) : Bool := if (gI h 420 a.toNatClampNeg) < 100 then (false) else (true)
def P137 (a : Int32) (h : Hp) : Prop := (vp_in a 8) ∧ ((((gI h 420 a.toNatClampNeg) < 100) → (True)) ∧ (¬ ((gI h 420 a.toNatClampNeg) < 100) → (True)))
set_option maxHeartbeats 8000000 in
theorem m137 {L : Nat} {xs : Nat → Int32} {h : Hp} {a : Int32} (hn : 444 ≤ h.1) (hL : LK h) (hP : P137 a h) : Sp L xs 137 [.ref 397, .int a] h (some (.int (b2i (F137 a h)))) h := by
  unfold P137 at hP
  refine sp_of (ls := [some (.ref 397), some (.int a)]) rfl ?_
  refine e_ld (pc' := 1) i137_0 rfl rfl ?_
  refine e_get (w := .ref 420) (pc' := 4) i137_1 rfl (x_isC (by decide) hn sh397) (x_fvR (by decide +kernel) (hL 397 24 420 lk397_24)) ?_
  refine e_ld (pc' := 5) i137_4 rfl rfl ?_
  obtain ⟨g1, hP⟩ := hP
  refine e_al (n := a.toNatClampNeg) (w := .int (gI h 420 a.toNatClampNeg)) (pc' := 6) i137_5 rfl (x_alX (a := 20) (by decide) hn sh420 (by decide) g1) rfl rfl ?_
  refine e_cn (pc' := 8) i137_6 rfl ?_
  refine e_ic (pc' := 11) i137_8 rfl (fun c2 => ?_) (fun c2 => ?_)
  · replace hP := hP.1 (of_decide_eq_true c2)
    refine e_cn (pc' := 16) i137_15 rfl ?_
    refine e_rt i137_16 rfl ?_
    exact ⟨by unfold F137; simp only [if_pos (show (gI h 420 a.toNatClampNeg) < 100 from (of_decide_eq_true c2))]; rfl, rfl⟩
  · replace hP := hP.2 (of_decide_eq_false c2)
    refine e_cn (pc' := 12) i137_11 rfl ?_
    refine e_go i137_12 ?_
    refine e_rt i137_16 rfl ?_
    exact ⟨by unfold F137; simp only [if_neg (show ¬ ((gI h 420 a.toNatClampNeg) < 100) from (of_decide_eq_false c2))]; rfl, rfl⟩
/-- FloorTurnModel.lowest(IJ)J -/
def F138 (a : Int32) (b : Int64) (h : Hp) : Int64 := if a = 0 then (b.toInt32.toInt8.toInt32.toInt64) else (if a = 1 then (b.toInt32.toInt16.toInt32.toInt64) else (if a = 2 then (b.toInt32.toInt64) else (b)))
set_option maxHeartbeats 8000000 in
theorem m138 {L : Nat} {xs : Nat → Int32} {h : Hp} {a : Int32} {b : Int64}  : Sp L xs 138 [.int a, .long b] h (some (.long (F138 a b h))) h := by
  refine sp_of (ls := [some (.int a), some (.long b), none]) rfl ?_
  refine e_ld (pc' := 1) i138_0 rfl rfl ?_
  refine e_if (pc' := 4) i138_1 rfl (fun c1 => ?_) (fun c1 => ?_)
  · skip
    refine e_ld (pc' := 12) i138_11 rfl rfl ?_
    refine e_cn (pc' := 13) i138_12 rfl ?_
    refine e_ic (pc' := 16) i138_13 rfl (fun c2 => ?_) (fun c2 => ?_)
    · skip
      refine e_ld (pc' := 24) i138_23 rfl rfl ?_
      refine e_cn (pc' := 25) i138_24 rfl ?_
      refine e_ic (pc' := 28) i138_25 rfl (fun c3 => ?_) (fun c3 => ?_)
      · skip
        refine e_ld (pc' := 35) i138_34 rfl rfl ?_
        refine e_rt i138_35 rfl ?_
        exact ⟨by unfold F138; simp only [if_neg (show ¬ (a = 0) from (of_decide_eq_true c1)), if_neg (show ¬ (a = 1) from (of_decide_eq_true c2)), if_neg (show ¬ (a = 2) from (of_decide_eq_true c3))], rfl⟩
      · skip
        refine e_ld (pc' := 29) i138_28 rfl rfl ?_
        refine e_un (pc' := 30) i138_29 rfl rfl ?_
        refine e_un (pc' := 31) i138_30 rfl rfl ?_
        refine e_go i138_31 ?_
        refine e_rt i138_35 rfl ?_
        exact ⟨by unfold F138; simp only [if_neg (show ¬ (a = 0) from (of_decide_eq_true c1)), if_neg (show ¬ (a = 1) from (of_decide_eq_true c2)), if_pos (show a = 2 from (Decidable.not_not.mp (of_decide_eq_false c3)))], rfl⟩
    · skip
      refine e_ld (pc' := 17) i138_16 rfl rfl ?_
      refine e_un (pc' := 18) i138_17 rfl rfl ?_
      refine e_un (pc' := 19) i138_18 rfl rfl ?_
      refine e_un (pc' := 20) i138_19 rfl rfl ?_
      refine e_go i138_20 ?_
      refine e_rt i138_35 rfl ?_
      exact ⟨by unfold F138; simp only [if_neg (show ¬ (a = 0) from (of_decide_eq_true c1)), if_pos (show a = 1 from (Decidable.not_not.mp (of_decide_eq_false c2)))], rfl⟩
  · skip
    refine e_ld (pc' := 5) i138_4 rfl rfl ?_
    refine e_un (pc' := 6) i138_5 rfl rfl ?_
    refine e_un (pc' := 7) i138_6 rfl rfl ?_
    refine e_un (pc' := 8) i138_7 rfl rfl ?_
    refine e_go i138_8 ?_
    refine e_rt i138_35 rfl ?_
    exact ⟨by unfold F138; simp only [if_pos (show a = 0 from (Decidable.not_not.mp (of_decide_eq_false c1)))], rfl⟩
/-- FloorTurnModel.rowless(I)I -/
def F140 (a : Int32) (h : Hp) : Int32 := if (x_isShelf a) = true then (if (F137 a h) = true then (0) else (if (gI h 420 a.toNatClampNeg) = 0 then ((-2)) else ((-3)))) else ((-1))
def P140 (a : Int32) (h : Hp) : Prop := (((x_isShelf a) = true) → ((P137 a h) ∧ ((((F137 a h) = true) → (True)) ∧ (¬ ((F137 a h) = true) → ((vp_in a 8) ∧ ((((gI h 420 a.toNatClampNeg) = 0) → (True)) ∧ (¬ ((gI h 420 a.toNatClampNeg) = 0) → (True)))))))) ∧ (¬ ((x_isShelf a) = true) → (True))
set_option maxHeartbeats 8000000 in
theorem m140 {L : Nat} {xs : Nat → Int32} {h : Hp} {a : Int32} (hn : 444 ≤ h.1) (hL : LK h) (hP : P140 a h) : Sp L xs 140 [.ref 397, .int a] h (some (.int (F140 a h))) h := by
  unfold P140 at hP
  refine sp_of (ls := [some (.ref 397), some (.int a)]) rfl ?_
  refine e_ld (pc' := 1) i140_0 rfl rfl ?_
  refine e_cI (w := .int (b2i (x_isShelf a))) (As := [.int a]) (rest := []) (pc' := 4) i140_1 rfl rfl rfl rfl rfl m136 ?_
  refine e_b1 (pc' := 7) i140_4 rfl (fun c1 => ?_) (fun c1 => ?_)
  · replace hP := hP.1 c1
    refine e_ld (pc' := 12) i140_11 rfl rfl ?_
    refine e_ld (pc' := 13) i140_12 rfl rfl ?_
    obtain ⟨g2, hP⟩ := hP
    refine e_cI (w := .int (b2i (F137 a h))) (As := [.ref 397, .int a]) (rest := []) (pc' := 16) i140_13 rfl rfl rfl rfl (by show (Nat.beq (x_kd 137) 0 && x_is 397 _ (MC 137) 0) = true; rw [show x_kd 137 = 0 by decide +kernel, show MC 137 = 11 by decide +kernel, (x_isC (by decide) hn sh397)]; rfl) (m137 hn hL g2) ?_
    refine e_b0 (pc' := 19) i140_16 rfl (fun c3 => ?_) (fun c3 => ?_)
    · replace hP := hP.2 (show ¬ (F137 a h) = true by rw [c3]; decide)
      refine e_ld (pc' := 24) i140_23 rfl rfl ?_
      refine e_get (w := .ref 420) (pc' := 27) i140_24 rfl (x_isC (by decide) hn sh397) (x_fvR (by decide +kernel) (hL 397 24 420 lk397_24)) ?_
      refine e_ld (pc' := 28) i140_27 rfl rfl ?_
      obtain ⟨g4, hP⟩ := hP
      refine e_al (n := a.toNatClampNeg) (w := .int (gI h 420 a.toNatClampNeg)) (pc' := 29) i140_28 rfl (x_alX (a := 20) (by decide) hn sh420 (by decide) g4) rfl rfl ?_
      refine e_if (pc' := 32) i140_29 rfl (fun c5 => ?_) (fun c5 => ?_)
      · replace hP := hP.2 (of_decide_eq_true c5)
        refine e_cn (pc' := 39) i140_37 rfl ?_
        refine e_rt i140_39 rfl ?_
        exact ⟨by unfold F140; simp only [if_pos c1, if_neg (show ¬ (F137 a h) = true by rw [c3]; decide), if_neg (show ¬ ((gI h 420 a.toNatClampNeg) = 0) from (of_decide_eq_true c5))], rfl⟩
      · replace hP := hP.1 (Decidable.not_not.mp (of_decide_eq_false c5))
        refine e_cn (pc' := 34) i140_32 rfl ?_
        refine e_go i140_34 ?_
        refine e_rt i140_39 rfl ?_
        exact ⟨by unfold F140; simp only [if_pos c1, if_neg (show ¬ (F137 a h) = true by rw [c3]; decide), if_pos (show (gI h 420 a.toNatClampNeg) = 0 from (Decidable.not_not.mp (of_decide_eq_false c5)))], rfl⟩
    · replace hP := hP.1 c3
      refine e_cn (pc' := 20) i140_19 rfl ?_
      refine e_go i140_20 ?_
      refine e_rt i140_39 rfl ?_
      exact ⟨by unfold F140; simp only [if_pos c1, if_pos c3], rfl⟩
  · replace hP := hP.2 (show ¬ (x_isShelf a) = true by rw [c1]; decide)
    refine e_cn (pc' := 8) i140_7 rfl ?_
    refine e_go i140_8 ?_
    refine e_rt i140_39 rfl ?_
    exact ⟨by unfold F140; simp only [if_neg (show ¬ (x_isShelf a) = true by rw [c1]; decide)], rfl⟩
/-- FloorTurnModel.set(IIJ)I -/
def F141 (a : Int32) (b : Int32) (c : Int64) (h : Hp) : Int32 := if (F140 a h) = 0 then (if (x_in3 b 0 ((gI h 421 a.toNatClampNeg) - 1)) = true then (1) else (F124 (-5) h)) else (F124 (F140 a h) h)
def G141 (a : Int32) (b : Int32) (c : Int64) (h : Hp) : Hp := if (F140 a h) = 0 then (if (x_in3 b 0 ((gI h 421 a.toNatClampNeg) - 1)) = true then (sL h 422 (((100 * a) + b).toNatClampNeg) (F138 ((gI h 420 a.toNatClampNeg) - 100) c h)) else (G124 (-5) h)) else (G124 (F140 a h) h)
theorem n_G141 (a : Int32) (b : Int32) (c : Int64) (h : Hp) : (G141 a b c h).1 = h.1 := by
  unfold G141
  (repeat' split) <;> first | rfl | (simp only [n_sI, n_sL, n_sR, n_G124])
theorem r_G141 (a : Int32) (b : Int32) (c : Int64) (h : Hp) : gR (G141 a b c h) = gR h := by
  unfold G141
  (repeat' split) <;> first | rfl | (simp only [gR_sI, gR_sL, r_G124])
def P141 (a : Int32) (b : Int32) (c : Int64) (h : Hp) : Prop := (P140 a h) ∧ ((((F140 a h) = 0) → ((vp_in a 8) ∧ ((((x_in3 b 0 ((gI h 421 a.toNatClampNeg) - 1)) = true) → ((vp_in a 8) ∧ ((vp_in ((100 * a) + b) 800) ∧ (True)))) ∧ (¬ ((x_in3 b 0 ((gI h 421 a.toNatClampNeg) - 1)) = true) → ((P124 (-5) h) ∧ (True)))))) ∧ (¬ ((F140 a h) = 0) → ((P124 (F140 a h) h) ∧ (True))))
set_option maxHeartbeats 8000000 in
theorem m141 {L : Nat} {xs : Nat → Int32} {h : Hp} {a : Int32} {b : Int32} {c : Int64} (hn : 444 ≤ h.1) (hL : LK h) (hP : P141 a b c h) : Sp L xs 141 [.ref 397, .int a, .int b, .long c] h (some (.int (F141 a b c h))) (G141 a b c h) := by
  unfold P141 at hP
  refine sp_of (ls := [some (.ref 397), some (.int a), some (.int b), some (.long c), none, none]) rfl ?_
  refine e_ld (pc' := 1) i141_0 rfl rfl ?_
  refine e_ld (pc' := 2) i141_1 rfl rfl ?_
  obtain ⟨g1, hP⟩ := hP
  refine e_cI (w := .int (F140 a h)) (As := [.ref 397, .int a]) (rest := []) (pc' := 5) i141_2 rfl rfl rfl rfl (by show (Nat.beq (x_kd 140) 0 && x_is 397 _ (MC 140) 0) = true; rw [show x_kd 140 = 0 by decide +kernel, show MC 140 = 11 by decide +kernel, (x_isC (by decide) hn sh397)]; rfl) (m140 hn hL g1) ?_
  refine e_st (ls' := [some (.ref 397), some (.int a), some (.int b), some (.long c), none, some (.int (F140 a h))]) (pc' := 7) i141_5 rfl rfl rfl ?_
  refine e_ld (pc' := 9) i141_7 rfl rfl ?_
  refine e_if (pc' := 12) i141_9 rfl (fun c2 => ?_) (fun c2 => ?_)
  · replace hP := hP.1 (of_decide_eq_true c2)
    refine e_ld (pc' := 20) i141_19 rfl rfl ?_
    refine e_cn (pc' := 21) i141_20 rfl ?_
    refine e_ld (pc' := 22) i141_21 rfl rfl ?_
    refine e_get (w := .ref 421) (pc' := 25) i141_22 rfl (x_isC (by decide) hn sh397) (x_fvR (by decide +kernel) (hL 397 25 421 lk397_25)) ?_
    refine e_ld (pc' := 26) i141_25 rfl rfl ?_
    obtain ⟨g3, hP⟩ := hP
    refine e_al (n := a.toNatClampNeg) (w := .int (gI h 421 a.toNatClampNeg)) (pc' := 27) i141_26 rfl (x_alX (a := 20) (by decide) hn sh421 (by decide) g3) rfl rfl ?_
    refine e_cn (pc' := 28) i141_27 rfl ?_
    refine e_ib (z := (gI h 421 a.toNatClampNeg) - 1) (pc' := 29) i141_28 rfl rfl ?_
    refine e_cI (w := .int (b2i (x_in3 b 0 ((gI h 421 a.toNatClampNeg) - 1)))) (As := [.int b, .int 0, .int ((gI h 421 a.toNatClampNeg) - 1)]) (rest := []) (pc' := 32) i141_29 rfl rfl rfl rfl rfl m123 ?_
    refine e_b1 (pc' := 35) i141_32 rfl (fun c4 => ?_) (fun c4 => ?_)
    · replace hP := hP.1 c4
      refine e_ld (pc' := 43) i141_42 rfl rfl ?_
      refine e_get (w := .ref 422) (pc' := 46) i141_43 rfl (x_isC (by decide) hn sh397) (x_fvR (by decide +kernel) (hL 397 26 422 lk397_26)) ?_
      refine e_cn (pc' := 48) i141_46 rfl ?_
      refine e_ld (pc' := 49) i141_48 rfl rfl ?_
      refine e_ib (z := 100 * a) (pc' := 50) i141_49 rfl rfl ?_
      refine e_ld (pc' := 51) i141_50 rfl rfl ?_
      refine e_ib (z := (100 * a) + b) (pc' := 52) i141_51 rfl rfl ?_
      refine e_ld (pc' := 53) i141_52 rfl rfl ?_
      refine e_get (w := .ref 420) (pc' := 56) i141_53 rfl (x_isC (by decide) hn sh397) (x_fvR (by decide +kernel) (hL 397 24 420 lk397_24)) ?_
      refine e_ld (pc' := 57) i141_56 rfl rfl ?_
      obtain ⟨g5, hP⟩ := hP
      refine e_al (n := a.toNatClampNeg) (w := .int (gI h 420 a.toNatClampNeg)) (pc' := 58) i141_57 rfl (x_alX (a := 20) (by decide) hn sh420 (by decide) g5) rfl rfl ?_
      refine e_cn (pc' := 60) i141_58 rfl ?_
      refine e_ib (z := (gI h 420 a.toNatClampNeg) - 100) (pc' := 61) i141_60 rfl rfl ?_
      refine e_ld (pc' := 62) i141_61 rfl rfl ?_
      refine e_cI (w := .long (F138 ((gI h 420 a.toNatClampNeg) - 100) c h)) (As := [.int ((gI h 420 a.toNatClampNeg) - 100), .long c]) (rest := [.int ((100 * a) + b), .ref 422]) (pc' := 65) i141_62 rfl rfl rfl rfl rfl m138 ?_
      obtain ⟨g6, hP⟩ := hP
      refine e_as (n := ((100 * a) + b).toNatClampNeg) (h' := sL h 422 (((100 * a) + b).toNatClampNeg) (F138 ((gI h 420 a.toNatClampNeg) - 100) c h)) (pc' := 66) i141_65 rfl (x_alX (a := 21) (by decide) hn sh422 (by decide) g6) rfl (by rw [show (SH 422).1 = 21 by rw [sh422]]; rfl) ?_
      have hn7 : 444 ≤ (sL h 422 (((100 * a) + b).toNatClampNeg) (F138 ((gI h 420 a.toNatClampNeg) - 100) c h)).1 := hn
      have hL7 : LK (sL h 422 (((100 * a) + b).toNatClampNeg) (F138 ((gI h 420 a.toNatClampNeg) - 100) c h)) := hL
      refine e_cn (pc' := 67) i141_66 rfl ?_
      refine e_rt i141_67 rfl ?_
      exact ⟨by unfold F141; simp only [if_pos (show (F140 a h) = 0 from (of_decide_eq_true c2)), if_pos c4], by unfold G141; simp only [if_pos (show (F140 a h) = 0 from (of_decide_eq_true c2)), if_pos c4]⟩
    · replace hP := hP.2 (show ¬ (x_in3 b 0 ((gI h 421 a.toNatClampNeg) - 1)) = true by rw [c4]; decide)
      refine e_ld (pc' := 36) i141_35 rfl rfl ?_
      refine e_cn (pc' := 38) i141_36 rfl ?_
      obtain ⟨g8, hP⟩ := hP
      refine e_cI (w := .int (F124 (-5) h)) (As := [.ref 397, .int (-5)]) (rest := []) (pc' := 41) i141_38 rfl rfl rfl rfl (by show (Nat.beq (x_kd 124) 0 && x_is 397 _ (MC 124) 0) = true; rw [show x_kd 124 = 0 by decide +kernel, show MC 124 = 11 by decide +kernel, (x_isC (by decide) hn sh397)]; rfl) (m124 hn hL g8) ?_
      have hn9 : 444 ≤ (G124 (-5) h).1 := by rw [n_G124]; exact hn
      have hL9 : LK (G124 (-5) h) := by unfold LK; rw [r_G124]; exact hL
      refine e_rt i141_41 rfl ?_
      exact ⟨by unfold F141; simp only [if_pos (show (F140 a h) = 0 from (of_decide_eq_true c2)), if_neg (show ¬ (x_in3 b 0 ((gI h 421 a.toNatClampNeg) - 1)) = true by rw [c4]; decide)], by unfold G141; simp only [if_pos (show (F140 a h) = 0 from (of_decide_eq_true c2)), if_neg (show ¬ (x_in3 b 0 ((gI h 421 a.toNatClampNeg) - 1)) = true by rw [c4]; decide)]⟩
  · replace hP := hP.2 (of_decide_eq_false c2)
    refine e_ld (pc' := 13) i141_12 rfl rfl ?_
    refine e_ld (pc' := 15) i141_13 rfl rfl ?_
    obtain ⟨g10, hP⟩ := hP
    refine e_cI (w := .int (F124 (F140 a h) h)) (As := [.ref 397, .int (F140 a h)]) (rest := []) (pc' := 18) i141_15 rfl rfl rfl rfl (by show (Nat.beq (x_kd 124) 0 && x_is 397 _ (MC 124) 0) = true; rw [show x_kd 124 = 0 by decide +kernel, show MC 124 = 11 by decide +kernel, (x_isC (by decide) hn sh397)]; rfl) (m124 hn hL g10) ?_
    have hn11 : 444 ≤ (G124 (F140 a h) h).1 := by rw [n_G124]; exact hn
    have hL11 : LK (G124 (F140 a h) h) := by unfold LK; rw [r_G124]; exact hL
    refine e_rt i141_18 rfl ?_
    exact ⟨by unfold F141; simp only [if_neg (show ¬ ((F140 a h) = 0) from (of_decide_eq_false c2))], by unfold G141; simp only [if_neg (show ¬ ((F140 a h) = 0) from (of_decide_eq_false c2))]⟩
/-- FloorTurnModel.element(II)J -/
def F143 (a : Int32) (b : Int32) (h : Hp) : Int64 := if (x_isShelf a) = true then (if (F137 a h) = true then (if (x_in3 b 0 ((gI h 421 a.toNatClampNeg) - 1)) = true then (gL h 422 (((100 * a) + b).toNatClampNeg)) else (0)) else (0)) else (0)
def P143 (a : Int32) (b : Int32) (h : Hp) : Prop := (((x_isShelf a) = true) → ((P137 a h) ∧ ((((F137 a h) = true) → ((vp_in a 8) ∧ ((((x_in3 b 0 ((gI h 421 a.toNatClampNeg) - 1)) = true) → ((vp_in ((100 * a) + b) 800) ∧ (True))) ∧ (¬ ((x_in3 b 0 ((gI h 421 a.toNatClampNeg) - 1)) = true) → (True))))) ∧ (¬ ((F137 a h) = true) → (True))))) ∧ (¬ ((x_isShelf a) = true) → (True))
set_option maxHeartbeats 8000000 in
theorem m143 {L : Nat} {xs : Nat → Int32} {h : Hp} {a : Int32} {b : Int32} (hn : 444 ≤ h.1) (hL : LK h) (hP : P143 a b h) : Sp L xs 143 [.ref 397, .int a, .int b] h (some (.long (F143 a b h))) h := by
  unfold P143 at hP
  refine sp_of (ls := [some (.ref 397), some (.int a), some (.int b)]) rfl ?_
  refine e_ld (pc' := 1) i143_0 rfl rfl ?_
  refine e_cI (w := .int (b2i (x_isShelf a))) (As := [.int a]) (rest := []) (pc' := 4) i143_1 rfl rfl rfl rfl rfl m136 ?_
  refine e_b0 (pc' := 7) i143_4 rfl (fun c1 => ?_) (fun c1 => ?_)
  · replace hP := hP.2 (show ¬ (x_isShelf a) = true by rw [c1]; decide)
    refine e_cn (pc' := 46) i143_45 rfl ?_
    refine e_rt i143_46 rfl ?_
    exact ⟨by unfold F143; simp only [if_neg (show ¬ (x_isShelf a) = true by rw [c1]; decide)], rfl⟩
  · replace hP := hP.1 c1
    refine e_ld (pc' := 8) i143_7 rfl rfl ?_
    refine e_ld (pc' := 9) i143_8 rfl rfl ?_
    obtain ⟨g2, hP⟩ := hP
    refine e_cI (w := .int (b2i (F137 a h))) (As := [.ref 397, .int a]) (rest := []) (pc' := 12) i143_9 rfl rfl rfl rfl (by show (Nat.beq (x_kd 137) 0 && x_is 397 _ (MC 137) 0) = true; rw [show x_kd 137 = 0 by decide +kernel, show MC 137 = 11 by decide +kernel, (x_isC (by decide) hn sh397)]; rfl) (m137 hn hL g2) ?_
    refine e_b0 (pc' := 15) i143_12 rfl (fun c3 => ?_) (fun c3 => ?_)
    · replace hP := hP.2 (show ¬ (F137 a h) = true by rw [c3]; decide)
      refine e_cn (pc' := 46) i143_45 rfl ?_
      refine e_rt i143_46 rfl ?_
      exact ⟨by unfold F143; simp only [if_pos c1, if_neg (show ¬ (F137 a h) = true by rw [c3]; decide)], rfl⟩
    · replace hP := hP.1 c3
      refine e_ld (pc' := 16) i143_15 rfl rfl ?_
      refine e_cn (pc' := 17) i143_16 rfl ?_
      refine e_ld (pc' := 18) i143_17 rfl rfl ?_
      refine e_get (w := .ref 421) (pc' := 21) i143_18 rfl (x_isC (by decide) hn sh397) (x_fvR (by decide +kernel) (hL 397 25 421 lk397_25)) ?_
      refine e_ld (pc' := 22) i143_21 rfl rfl ?_
      obtain ⟨g4, hP⟩ := hP
      refine e_al (n := a.toNatClampNeg) (w := .int (gI h 421 a.toNatClampNeg)) (pc' := 23) i143_22 rfl (x_alX (a := 20) (by decide) hn sh421 (by decide) g4) rfl rfl ?_
      refine e_cn (pc' := 24) i143_23 rfl ?_
      refine e_ib (z := (gI h 421 a.toNatClampNeg) - 1) (pc' := 25) i143_24 rfl rfl ?_
      refine e_cI (w := .int (b2i (x_in3 b 0 ((gI h 421 a.toNatClampNeg) - 1)))) (As := [.int b, .int 0, .int ((gI h 421 a.toNatClampNeg) - 1)]) (rest := []) (pc' := 28) i143_25 rfl rfl rfl rfl rfl m123 ?_
      refine e_b0 (pc' := 31) i143_28 rfl (fun c5 => ?_) (fun c5 => ?_)
      · replace hP := hP.2 (show ¬ (x_in3 b 0 ((gI h 421 a.toNatClampNeg) - 1)) = true by rw [c5]; decide)
        refine e_cn (pc' := 46) i143_45 rfl ?_
        refine e_rt i143_46 rfl ?_
        exact ⟨by unfold F143; simp only [if_pos c1, if_pos c3, if_neg (show ¬ (x_in3 b 0 ((gI h 421 a.toNatClampNeg) - 1)) = true by rw [c5]; decide)], rfl⟩
      · replace hP := hP.1 c5
        refine e_ld (pc' := 32) i143_31 rfl rfl ?_
        refine e_get (w := .ref 422) (pc' := 35) i143_32 rfl (x_isC (by decide) hn sh397) (x_fvR (by decide +kernel) (hL 397 26 422 lk397_26)) ?_
        refine e_cn (pc' := 37) i143_35 rfl ?_
        refine e_ld (pc' := 38) i143_37 rfl rfl ?_
        refine e_ib (z := 100 * a) (pc' := 39) i143_38 rfl rfl ?_
        refine e_ld (pc' := 40) i143_39 rfl rfl ?_
        refine e_ib (z := (100 * a) + b) (pc' := 41) i143_40 rfl rfl ?_
        obtain ⟨g6, hP⟩ := hP
        refine e_al (n := ((100 * a) + b).toNatClampNeg) (w := .long (gL h 422 (((100 * a) + b).toNatClampNeg))) (pc' := 42) i143_41 rfl (x_alX (a := 21) (by decide) hn sh422 (by decide) g6) rfl rfl ?_
        refine e_go i143_42 ?_
        refine e_rt i143_46 rfl ?_
        exact ⟨by unfold F143; simp only [if_pos c1, if_pos c3, if_pos c5], rfl⟩
/-- FloorTurnModel.clear(I)I -/
def F144 (a : Int32) (h : Hp) : Int32 := if (x_isShelf a) = true then (if (gI h 420 a.toNatClampNeg) = (-1) then (0) else (1)) else (F124 (-1) h)
def G144 (a : Int32) (h : Hp) : Hp := if (x_isShelf a) = true then (if (gI h 420 a.toNatClampNeg) = (-1) then (sI h 420 a.toNatClampNeg (-1)) else (sI h 420 a.toNatClampNeg (-1))) else (G124 (-1) h)
theorem n_G144 (a : Int32) (h : Hp) : (G144 a h).1 = h.1 := by
  unfold G144
  (repeat' split) <;> first | rfl | (simp only [n_sI, n_sL, n_sR, n_G124])
theorem r_G144 (a : Int32) (h : Hp) : gR (G144 a h) = gR h := by
  unfold G144
  (repeat' split) <;> first | rfl | (simp only [gR_sI, gR_sL, r_G124])
def P144 (a : Int32) (h : Hp) : Prop := (((x_isShelf a) = true) → ((vp_in a 8) ∧ ((vp_in a 8) ∧ ((((gI h 420 a.toNatClampNeg) = (-1)) → (True)) ∧ (¬ ((gI h 420 a.toNatClampNeg) = (-1)) → (True)))))) ∧ (¬ ((x_isShelf a) = true) → ((P124 (-1) h) ∧ (True)))
set_option maxHeartbeats 8000000 in
theorem m144 {L : Nat} {xs : Nat → Int32} {h : Hp} {a : Int32} (hn : 444 ≤ h.1) (hL : LK h) (hP : P144 a h) : Sp L xs 144 [.ref 397, .int a] h (some (.int (F144 a h))) (G144 a h) := by
  unfold P144 at hP
  refine sp_of (ls := [some (.ref 397), some (.int a), none]) rfl ?_
  refine e_ld (pc' := 1) i144_0 rfl rfl ?_
  refine e_cI (w := .int (b2i (x_isShelf a))) (As := [.int a]) (rest := []) (pc' := 4) i144_1 rfl rfl rfl rfl rfl m136 ?_
  refine e_b1 (pc' := 7) i144_4 rfl (fun c1 => ?_) (fun c1 => ?_)
  · replace hP := hP.1 c1
    refine e_ld (pc' := 14) i144_13 rfl rfl ?_
    refine e_get (w := .ref 420) (pc' := 17) i144_14 rfl (x_isC (by decide) hn sh397) (x_fvR (by decide +kernel) (hL 397 24 420 lk397_24)) ?_
    refine e_ld (pc' := 18) i144_17 rfl rfl ?_
    obtain ⟨g2, hP⟩ := hP
    refine e_al (n := a.toNatClampNeg) (w := .int (gI h 420 a.toNatClampNeg)) (pc' := 19) i144_18 rfl (x_alX (a := 20) (by decide) hn sh420 (by decide) g2) rfl rfl ?_
    refine e_st (ls' := [some (.ref 397), some (.int a), some (.int (gI h 420 a.toNatClampNeg))]) (pc' := 20) i144_19 rfl rfl rfl ?_
    refine e_ld (pc' := 21) i144_20 rfl rfl ?_
    refine e_get (w := .ref 420) (pc' := 24) i144_21 rfl (x_isC (by decide) hn sh397) (x_fvR (by decide +kernel) (hL 397 24 420 lk397_24)) ?_
    refine e_ld (pc' := 25) i144_24 rfl rfl ?_
    refine e_cn (pc' := 26) i144_25 rfl ?_
    obtain ⟨g3, hP⟩ := hP
    refine e_as (n := a.toNatClampNeg) (h' := sI h 420 a.toNatClampNeg (-1)) (pc' := 27) i144_26 rfl (x_alX (a := 20) (by decide) hn sh420 (by decide) g3) rfl (by rw [show (SH 420).1 = 20 by rw [sh420]]; rfl) ?_
    have hn4 : 444 ≤ (sI h 420 a.toNatClampNeg (-1)).1 := hn
    have hL4 : LK (sI h 420 a.toNatClampNeg (-1)) := hL
    refine e_ld (pc' := 28) i144_27 rfl rfl ?_
    refine e_cn (pc' := 29) i144_28 rfl ?_
    refine e_ic (pc' := 32) i144_29 rfl (fun c5 => ?_) (fun c5 => ?_)
    · replace hP := hP.2 (of_decide_eq_true c5)
      refine e_cn (pc' := 37) i144_36 rfl ?_
      refine e_rt i144_37 rfl ?_
      exact ⟨by unfold F144; simp only [if_pos c1, if_neg (show ¬ ((gI h 420 a.toNatClampNeg) = (-1)) from (of_decide_eq_true c5))], by unfold G144; simp only [if_pos c1, if_neg (show ¬ ((gI h 420 a.toNatClampNeg) = (-1)) from (of_decide_eq_true c5))]⟩
    · replace hP := hP.1 (Decidable.not_not.mp (of_decide_eq_false c5))
      refine e_cn (pc' := 33) i144_32 rfl ?_
      refine e_go i144_33 ?_
      refine e_rt i144_37 rfl ?_
      exact ⟨by unfold F144; simp only [if_pos c1, if_pos (show (gI h 420 a.toNatClampNeg) = (-1) from (Decidable.not_not.mp (of_decide_eq_false c5)))], by unfold G144; simp only [if_pos c1, if_pos (show (gI h 420 a.toNatClampNeg) = (-1) from (Decidable.not_not.mp (of_decide_eq_false c5)))]⟩
  · replace hP := hP.2 (show ¬ (x_isShelf a) = true by rw [c1]; decide)
    refine e_ld (pc' := 8) i144_7 rfl rfl ?_
    refine e_cn (pc' := 9) i144_8 rfl ?_
    obtain ⟨g6, hP⟩ := hP
    refine e_cI (w := .int (F124 (-1) h)) (As := [.ref 397, .int (-1)]) (rest := []) (pc' := 12) i144_9 rfl rfl rfl rfl (by show (Nat.beq (x_kd 124) 0 && x_is 397 _ (MC 124) 0) = true; rw [show x_kd 124 = 0 by decide +kernel, show MC 124 = 11 by decide +kernel, (x_isC (by decide) hn sh397)]; rfl) (m124 hn hL g6) ?_
    have hn7 : 444 ≤ (G124 (-1) h).1 := by rw [n_G124]; exact hn
    have hL7 : LK (G124 (-1) h) := by unfold LK; rw [r_G124]; exact hL
    refine e_rt i144_12 rfl ?_
    exact ⟨by unfold F144; simp only [if_neg (show ¬ (x_isShelf a) = true by rw [c1]; decide)], by unfold G144; simp only [if_neg (show ¬ (x_isShelf a) = true by rw [c1]; decide)]⟩
/-- FloorTurnModel.holds(I)I -/
def F145 (a : Int32) (h : Hp) : Int32 := if (x_isShelf a) = true then (gI h 420 a.toNatClampNeg) else ((-1))
def P145 (a : Int32) (h : Hp) : Prop := (((x_isShelf a) = true) → ((vp_in a 8) ∧ (True))) ∧ (¬ ((x_isShelf a) = true) → (True))
set_option maxHeartbeats 8000000 in
theorem m145 {L : Nat} {xs : Nat → Int32} {h : Hp} {a : Int32} (hn : 444 ≤ h.1) (hL : LK h) (hP : P145 a h) : Sp L xs 145 [.ref 397, .int a] h (some (.int (F145 a h))) h := by
  unfold P145 at hP
  refine sp_of (ls := [some (.ref 397), some (.int a)]) rfl ?_
  refine e_ld (pc' := 1) i145_0 rfl rfl ?_
  refine e_cI (w := .int (b2i (x_isShelf a))) (As := [.int a]) (rest := []) (pc' := 4) i145_1 rfl rfl rfl rfl rfl m136 ?_
  refine e_b0 (pc' := 7) i145_4 rfl (fun c1 => ?_) (fun c1 => ?_)
  · replace hP := hP.2 (show ¬ (x_isShelf a) = true by rw [c1]; decide)
    refine e_cn (pc' := 17) i145_16 rfl ?_
    refine e_rt i145_17 rfl ?_
    exact ⟨by unfold F145; simp only [if_neg (show ¬ (x_isShelf a) = true by rw [c1]; decide)], rfl⟩
  · replace hP := hP.1 c1
    refine e_ld (pc' := 8) i145_7 rfl rfl ?_
    refine e_get (w := .ref 420) (pc' := 11) i145_8 rfl (x_isC (by decide) hn sh397) (x_fvR (by decide +kernel) (hL 397 24 420 lk397_24)) ?_
    refine e_ld (pc' := 12) i145_11 rfl rfl ?_
    obtain ⟨g2, hP⟩ := hP
    refine e_al (n := a.toNatClampNeg) (w := .int (gI h 420 a.toNatClampNeg)) (pc' := 13) i145_12 rfl (x_alX (a := 20) (by decide) hn sh420 (by decide) g2) rfl rfl ?_
    refine e_go i145_13 ?_
    refine e_rt i145_17 rfl ?_
    exact ⟨by unfold F145; simp only [if_pos c1], rfl⟩
/-- FloorTurnModel.cell(II)I -/
def F146 (a : Int32) (b : Int32) (h : Hp) : Int32 := (gL h 422 (((100 * a) + b).toNatClampNeg)).toInt32
def P146 (a : Int32) (b : Int32) (h : Hp) : Prop := (vp_in ((100 * a) + b) 800) ∧ (True)
set_option maxHeartbeats 8000000 in
theorem m146 {L : Nat} {xs : Nat → Int32} {h : Hp} {a : Int32} {b : Int32} (hn : 444 ≤ h.1) (hL : LK h) (hP : P146 a b h) : Sp L xs 146 [.ref 397, .int a, .int b] h (some (.int (F146 a b h))) h := by
  unfold P146 at hP
  refine sp_of (ls := [some (.ref 397), some (.int a), some (.int b)]) rfl ?_
  refine e_ld (pc' := 1) i146_0 rfl rfl ?_
  refine e_get (w := .ref 422) (pc' := 4) i146_1 rfl (x_isC (by decide) hn sh397) (x_fvR (by decide +kernel) (hL 397 26 422 lk397_26)) ?_
  refine e_cn (pc' := 6) i146_4 rfl ?_
  refine e_ld (pc' := 7) i146_6 rfl rfl ?_
  refine e_ib (z := 100 * a) (pc' := 8) i146_7 rfl rfl ?_
  refine e_ld (pc' := 9) i146_8 rfl rfl ?_
  refine e_ib (z := (100 * a) + b) (pc' := 10) i146_9 rfl rfl ?_
  obtain ⟨g1, hP⟩ := hP
  refine e_al (n := ((100 * a) + b).toNatClampNeg) (w := .long (gL h 422 (((100 * a) + b).toNatClampNeg))) (pc' := 11) i146_10 rfl (x_alX (a := 21) (by decide) hn sh422 (by decide) g1) rfl rfl ?_
  refine e_un (pc' := 12) i146_11 rfl rfl ?_
  refine e_rt i146_12 rfl ?_
  exact ⟨by unfold F146; skip; rfl, rfl⟩
/-- FloorTurnModel.turnedSide(III)I -/
def F150 (a : Int32) (b : Int32) (c : Int32) (h : Hp) : Int32 := if a = 4 then (((b <<< ((c : Int32) &&& 31)) ||| (b >>> (((4 - c) : Int32) &&& 31))) &&& 15) else ((b + c) - (b + c) / 4 * 4)
set_option maxHeartbeats 8000000 in
theorem m150 {L : Nat} {xs : Nat → Int32} {h : Hp} {a : Int32} {b : Int32} {c : Int32}  : Sp L xs 150 [.int a, .int b, .int c] h (some (.int (F150 a b c h))) h := by
  refine sp_of (ls := [some (.int a), some (.int b), some (.int c)]) rfl ?_
  refine e_ld (pc' := 1) i150_0 rfl rfl ?_
  refine e_cn (pc' := 2) i150_1 rfl ?_
  refine e_ic (pc' := 5) i150_2 rfl (fun c1 => ?_) (fun c1 => ?_)
  · skip
    refine e_ld (pc' := 21) i150_20 rfl rfl ?_
    refine e_ld (pc' := 22) i150_21 rfl rfl ?_
    refine e_ib (z := b + c) (pc' := 23) i150_22 rfl rfl ?_
    refine e_cn (pc' := 24) i150_23 rfl ?_
    refine e_ib (z := (b + c) - (b + c) / 4 * 4) (pc' := 25) i150_24 rfl (x_ib_rem (by decide)) ?_
    refine e_rt i150_25 rfl ?_
    exact ⟨by unfold F150; simp only [if_neg (show ¬ (a = 4) from (of_decide_eq_true c1))], rfl⟩
  · skip
    refine e_ld (pc' := 6) i150_5 rfl rfl ?_
    refine e_ld (pc' := 7) i150_6 rfl rfl ?_
    refine e_ib (z := b <<< ((c : Int32) &&& 31)) (pc' := 8) i150_7 rfl rfl ?_
    refine e_ld (pc' := 9) i150_8 rfl rfl ?_
    refine e_cn (pc' := 10) i150_9 rfl ?_
    refine e_ld (pc' := 11) i150_10 rfl rfl ?_
    refine e_ib (z := 4 - c) (pc' := 12) i150_11 rfl rfl ?_
    refine e_ib (z := b >>> (((4 - c) : Int32) &&& 31)) (pc' := 13) i150_12 rfl rfl ?_
    refine e_ib (z := (b <<< ((c : Int32) &&& 31)) ||| (b >>> (((4 - c) : Int32) &&& 31))) (pc' := 14) i150_13 rfl rfl ?_
    refine e_cn (pc' := 16) i150_14 rfl ?_
    refine e_ib (z := ((b <<< ((c : Int32) &&& 31)) ||| (b >>> (((4 - c) : Int32) &&& 31))) &&& 15) (pc' := 17) i150_16 rfl rfl ?_
    refine e_go i150_17 ?_
    refine e_rt i150_25 rfl ?_
    exact ⟨by unfold F150; simp only [if_pos (show a = 4 from (Decidable.not_not.mp (of_decide_eq_false c1)))], rfl⟩
/-- FloorTurnModel.pieceless(I)I -/
def F152 (a : Int32) (h : Hp) : Int32 := if (F137 a h) = true then ((-2)) else (if (gI h 420 a.toNatClampNeg) = (-1) then ((-3)) else (0))
def P152 (a : Int32) (h : Hp) : Prop := (P137 a h) ∧ ((((F137 a h) = true) → (True)) ∧ (¬ ((F137 a h) = true) → ((vp_in a 8) ∧ ((((gI h 420 a.toNatClampNeg) = (-1)) → (True)) ∧ (¬ ((gI h 420 a.toNatClampNeg) = (-1)) → (True))))))
set_option maxHeartbeats 8000000 in
theorem m152 {L : Nat} {xs : Nat → Int32} {h : Hp} {a : Int32} (hn : 444 ≤ h.1) (hL : LK h) (hP : P152 a h) : Sp L xs 152 [.ref 397, .int a] h (some (.int (F152 a h))) h := by
  unfold P152 at hP
  refine sp_of (ls := [some (.ref 397), some (.int a)]) rfl ?_
  refine e_ld (pc' := 1) i152_0 rfl rfl ?_
  refine e_ld (pc' := 2) i152_1 rfl rfl ?_
  obtain ⟨g1, hP⟩ := hP
  refine e_cI (w := .int (b2i (F137 a h))) (As := [.ref 397, .int a]) (rest := []) (pc' := 5) i152_2 rfl rfl rfl rfl (by show (Nat.beq (x_kd 137) 0 && x_is 397 _ (MC 137) 0) = true; rw [show x_kd 137 = 0 by decide +kernel, show MC 137 = 11 by decide +kernel, (x_isC (by decide) hn sh397)]; rfl) (m137 hn hL g1) ?_
  refine e_b0 (pc' := 8) i152_5 rfl (fun c2 => ?_) (fun c2 => ?_)
  · replace hP := hP.2 (show ¬ (F137 a h) = true by rw [c2]; decide)
    refine e_ld (pc' := 14) i152_13 rfl rfl ?_
    refine e_get (w := .ref 420) (pc' := 17) i152_14 rfl (x_isC (by decide) hn sh397) (x_fvR (by decide +kernel) (hL 397 24 420 lk397_24)) ?_
    refine e_ld (pc' := 18) i152_17 rfl rfl ?_
    obtain ⟨g3, hP⟩ := hP
    refine e_al (n := a.toNatClampNeg) (w := .int (gI h 420 a.toNatClampNeg)) (pc' := 19) i152_18 rfl (x_alX (a := 20) (by decide) hn sh420 (by decide) g3) rfl rfl ?_
    refine e_cn (pc' := 20) i152_19 rfl ?_
    refine e_ic (pc' := 23) i152_20 rfl (fun c4 => ?_) (fun c4 => ?_)
    · replace hP := hP.2 (of_decide_eq_true c4)
      refine e_cn (pc' := 29) i152_28 rfl ?_
      refine e_rt i152_29 rfl ?_
      exact ⟨by unfold F152; simp only [if_neg (show ¬ (F137 a h) = true by rw [c2]; decide), if_neg (show ¬ ((gI h 420 a.toNatClampNeg) = (-1)) from (of_decide_eq_true c4))], rfl⟩
    · replace hP := hP.1 (Decidable.not_not.mp (of_decide_eq_false c4))
      refine e_cn (pc' := 25) i152_23 rfl ?_
      refine e_go i152_25 ?_
      refine e_rt i152_29 rfl ?_
      exact ⟨by unfold F152; simp only [if_neg (show ¬ (F137 a h) = true by rw [c2]; decide), if_pos (show (gI h 420 a.toNatClampNeg) = (-1) from (Decidable.not_not.mp (of_decide_eq_false c4)))], rfl⟩
  · replace hP := hP.1 c2
    refine e_cn (pc' := 10) i152_8 rfl ?_
    refine e_go i152_10 ?_
    refine e_rt i152_29 rfl ?_
    exact ⟨by unfold F152; simp only [if_pos c2], rfl⟩
