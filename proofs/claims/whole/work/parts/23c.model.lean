/-! The reference's methods without loops, as functions. -/
/-- FloorTurnModel.raze(I)I -/
def F135 (a : Int32) (h : Hp) : Int32 := if (x_isCell a) = true then (gI h 405 a.toNatClampNeg) else (F124 (-1) h)
def G135 (a : Int32) (h : Hp) : Hp := if (x_isCell a) = true then (sI (sI h 405 a.toNatClampNeg 0) 412 a.toNatClampNeg 0) else (G124 (-1) h)
theorem n_G135 (a : Int32) (h : Hp) : (G135 a h).1 = h.1 := by
  unfold G135
  (repeat' split) <;> first | (simp only [n_sI, n_aI, n_bI, n_sL, n_sR, n_G124]; done) | rfl
theorem r_G135 (a : Int32) (h : Hp) : gR (G135 a h) = gR h := by
  unfold G135
  (repeat' split) <;> first | (simp only [gR_sI, gR_aI, gR_bI, gR_sL, r_G124]; done) | rfl
def P135 (a : Int32) (h : Hp) : Prop := (((x_isCell a) = true) → ((vp_in a 144) ∧ ((vp_in a 144) ∧ ((vp_in a 432) ∧ (True))))) ∧ (¬ ((x_isCell a) = true) → ((P124 (-1) h) ∧ (True)))
set_option maxHeartbeats 8000000 in
set_option maxRecDepth 100000 in
theorem m135 {L : Nat} {xs : Nat → Int32} {h : Hp} {a : Int32} (hn : 444 ≤ h.1) (hL : LK h) (hP : P135 a h) : Sp L xs 135 [.ref 397, .int a] h (some (.int (F135 a h))) (G135 a h) := by
  unfold P135 at hP
  refine sp_of (ls := [some (.ref 397), some (.int a), none]) rfl ?_
  refine e_ld (pc' := 1) i135_0 rfl rfl ?_
  refine e_cI (w := .int (b2i (x_isCell a))) (As := [.int a]) (rest := []) (pc' := 4) i135_1 rfl rfl rfl rfl rfl m125 ?_
  refine e_b1 (pc' := 7) i135_4 rfl (fun c1 => ?_) (fun c1 => ?_)
  · replace hP := hP.1 c1
    refine e_ld (pc' := 14) i135_13 rfl rfl ?_
    refine e_get (w := .ref 405) (pc' := 17) i135_14 rfl (x_isC (by decide) hn sh397) (x_fvR (by decide +kernel) (hL 397 8 405 lk397_8)) ?_
    refine e_ld (pc' := 18) i135_17 rfl rfl ?_
    obtain ⟨g2, hP⟩ := hP
    refine e_al (n := a.toNatClampNeg) (w := .int (gI h 405 a.toNatClampNeg)) (pc' := 19) i135_18 rfl (x_alX (a := 20) (by decide) hn sh405 (by decide) g2) rfl rfl ?_
    refine e_st (ls' := [some (.ref 397), some (.int a), some (.int (gI h 405 a.toNatClampNeg))]) (pc' := 20) i135_19 rfl rfl rfl ?_
    refine e_ld (pc' := 21) i135_20 rfl rfl ?_
    refine e_get (w := .ref 405) (pc' := 24) i135_21 rfl (x_isC (by decide) hn sh397) (x_fvR (by decide +kernel) (hL 397 8 405 lk397_8)) ?_
    refine e_ld (pc' := 25) i135_24 rfl rfl ?_
    refine e_cn (pc' := 26) i135_25 rfl ?_
    obtain ⟨g3, hP⟩ := hP
    refine e_as (n := a.toNatClampNeg) (h' := sI h 405 a.toNatClampNeg 0) (pc' := 27) i135_26 rfl (x_alX (a := 20) (by decide) hn sh405 (by decide) g3) rfl (by rw [show (SH 405).1 = 20 by rw [sh405]]; rfl) ?_
    have hn4 : 444 ≤ (sI h 405 a.toNatClampNeg 0).1 := le_sI hn
    have hL4 : LK (sI h 405 a.toNatClampNeg 0) := LK_sI hL
    refine e_ld (pc' := 28) i135_27 rfl rfl ?_
    refine e_get (w := .ref 412) (pc' := 31) i135_28 rfl (x_isC (by decide) hn4 sh397) (x_fvR (by decide +kernel) (hL4 397 16 412 lk397_16)) ?_
    refine e_ld (pc' := 32) i135_31 rfl rfl ?_
    refine e_cn (pc' := 33) i135_32 rfl ?_
    obtain ⟨g5, hP⟩ := hP
    refine e_as (n := a.toNatClampNeg) (h' := sI (sI h 405 a.toNatClampNeg 0) 412 a.toNatClampNeg 0) (pc' := 34) i135_33 rfl (x_alX (a := 20) (by decide) hn4 sh412 (by decide) g5) rfl (by rw [show (SH 412).1 = 20 by rw [sh412]]; rfl) ?_
    have hn6 : 444 ≤ (sI (sI h 405 a.toNatClampNeg 0) 412 a.toNatClampNeg 0).1 := le_sI hn4
    have hL6 : LK (sI (sI h 405 a.toNatClampNeg 0) 412 a.toNatClampNeg 0) := LK_sI hL4
    refine e_ld (pc' := 35) i135_34 rfl rfl ?_
    refine e_rt i135_35 rfl ?_
    exact ⟨by unfold F135; simp only [if_pos c1], by unfold G135; simp only [if_pos c1]⟩
  · replace hP := hP.2 (show ¬ (x_isCell a) = true by rw [c1]; decide)
    refine e_ld (pc' := 8) i135_7 rfl rfl ?_
    refine e_cn (pc' := 9) i135_8 rfl ?_
    obtain ⟨g7, hP⟩ := hP
    refine e_cI (w := .int (F124 (-1) h)) (As := [.ref 397, .int (-1)]) (rest := []) (pc' := 12) i135_9 rfl rfl rfl rfl (by show (Nat.beq (x_kd 124) 0 && x_is 397 _ (MC 124) 0) = true; rw [show x_kd 124 = 0 by decide +kernel, show MC 124 = 11 by decide +kernel, (x_isC (by decide) hn sh397)]; rfl) (m124 hn hL g7) ?_
    have hn8 : 444 ≤ (G124 (-1) h).1 := by rw [n_G124]; exact hn
    have hL8 : LK (G124 (-1) h) := by unfold LK; rw [r_G124]; exact hL
    refine e_rt i135_12 rfl ?_
    exact ⟨by unfold F135; simp only [if_neg (show ¬ (x_isCell a) = true by rw [c1]; decide)], by unfold G135; simp only [if_neg (show ¬ (x_isCell a) = true by rw [c1]; decide)]⟩
/-- FloorTurnModel.isRow(I)Z -/
def F137 (a : Int32) (h : Hp) : Bool := if (gI h 420 a.toNatClampNeg) < 100 then (false) else (true)
def P137 (a : Int32) (h : Hp) : Prop := (vp_in a 8) ∧ (True)
set_option maxHeartbeats 8000000 in
set_option maxRecDepth 100000 in
theorem m137 {L : Nat} {xs : Nat → Int32} {h : Hp} {a : Int32} (hn : 444 ≤ h.1) (hL : LK h) (hP : P137 a h) : Sp L xs 137 [.ref 397, .int a] h (some (.int (b2i (F137 a h)))) h := by
  unfold P137 at hP
  refine sp_of (ls := [some (.ref 397), some (.int a)]) rfl ?_
  refine e_ld (pc' := 1) i137_0 rfl rfl ?_
  refine e_get (w := .ref 420) (pc' := 4) i137_1 rfl (x_isC (by decide) hn sh397) (x_fvR (by decide +kernel) (hL 397 24 420 lk397_24)) ?_
  refine e_ld (pc' := 5) i137_4 rfl rfl ?_
  obtain ⟨g1, hP⟩ := hP
  refine e_al (n := a.toNatClampNeg) (w := .int (gI h 420 a.toNatClampNeg)) (pc' := 6) i137_5 rfl (x_alX (a := 20) (by decide) hn sh420 (by decide) g1) rfl rfl ?_
  refine e_cn (pc' := 8) i137_6 rfl ?_
  refine e_reg (pc' := 16) (ls' := [some (.ref 397), some (.int a)]) (st' := [.int (b2i (if (gI h 420 a.toNatClampNeg) < 100 then (false) else (true)))]) (fun kj2 => ?_) ?_
  · skip
    refine e_ic (pc' := 11) i137_8 rfl (fun c3 => ?_) (fun c3 => ?_)
    · skip
      refine e_cn (pc' := 16) i137_15 rfl ?_
      exact (by simp only [if_pos (show (gI h 420 a.toNatClampNeg) < 100 from (of_decide_eq_true c3))] at kj2 ⊢; exact kj2)
    · skip
      refine e_cn (pc' := 12) i137_11 rfl ?_
      refine e_go i137_12 ?_
      exact (by simp only [if_neg (show ¬ ((gI h 420 a.toNatClampNeg) < 100) from (of_decide_eq_false c3))] at kj2 ⊢; exact kj2)
  refine e_rt (r := some (.int (b2i (if (gI h 420 a.toNatClampNeg) < 100 then (false) else (true))))) i137_16 (by simp only [x_rt, show MR 137 = some .boolean by decide +kernel, b2i_01, cond_true]) ?_
  exact ⟨by unfold F137; skip; rfl, rfl⟩
/-- FloorTurnModel.lowest(IJ)J -/
def F138 (a : Int32) (b : Int64) (h : Hp) : Int64 := if a = 0 then (b.toInt32.toInt8.toInt32.toInt64) else (if a = 1 then (b.toInt32.toInt16.toInt32.toInt64) else (if a = 2 then (b.toInt32.toInt64) else (b)))
set_option maxHeartbeats 8000000 in
set_option maxRecDepth 100000 in
theorem m138 {L : Nat} {xs : Nat → Int32} {h : Hp} {a : Int32} {b : Int64}  : Sp L xs 138 [.int a, .long b] h (some (.long (F138 a b h))) h := by
  refine sp_of (ls := [some (.int a), some (.long b), none]) rfl ?_
  refine e_ld (pc' := 1) i138_0 rfl rfl ?_
  refine e_reg (pc' := 35) (ls' := [some (.int a), some (.long b), none]) (st' := [.long (if a = 0 then (b.toInt32.toInt8.toInt32.toInt64) else (if a = 1 then (b.toInt32.toInt16.toInt32.toInt64) else (if a = 2 then (b.toInt32.toInt64) else (b))))]) (fun kj1 => ?_) ?_
  · skip
    refine e_if (pc' := 4) i138_1 rfl (fun c2 => ?_) (fun c2 => ?_)
    · skip
      refine e_ld (pc' := 12) i138_11 rfl rfl ?_
      refine e_cn (pc' := 13) i138_12 rfl ?_
      refine e_reg (pc' := 35) (ls' := [some (.int a), some (.long b), none]) (st' := [.long (if a = 1 then (b.toInt32.toInt16.toInt32.toInt64) else (if a = 2 then (b.toInt32.toInt64) else (b)))]) (fun kj3 => ?_) ?_
      · skip
        refine e_ic (pc' := 16) i138_13 rfl (fun c4 => ?_) (fun c4 => ?_)
        · skip
          refine e_ld (pc' := 24) i138_23 rfl rfl ?_
          refine e_cn (pc' := 25) i138_24 rfl ?_
          refine e_reg (pc' := 35) (ls' := [some (.int a), some (.long b), none]) (st' := [.long (if a = 2 then (b.toInt32.toInt64) else (b))]) (fun kj5 => ?_) ?_
          · skip
            refine e_ic (pc' := 28) i138_25 rfl (fun c6 => ?_) (fun c6 => ?_)
            · skip
              refine e_ld (pc' := 35) i138_34 rfl rfl ?_
              exact (by simp only [if_neg (show ¬ (a = 2) from (of_decide_eq_true c6))] at kj5 ⊢; exact kj5)
            · skip
              refine e_ld (pc' := 29) i138_28 rfl rfl ?_
              refine e_un (pc' := 30) i138_29 rfl rfl ?_
              refine e_un (pc' := 31) i138_30 rfl rfl ?_
              refine e_go i138_31 ?_
              exact (by simp only [if_pos (show a = 2 from (Decidable.not_not.mp (of_decide_eq_false c6)))] at kj5 ⊢; exact kj5)
          exact (by simp only [if_neg (show ¬ (a = 1) from (of_decide_eq_true c4))] at kj3 ⊢; exact kj3)
        · skip
          refine e_ld (pc' := 17) i138_16 rfl rfl ?_
          refine e_un (pc' := 18) i138_17 rfl rfl ?_
          refine e_un (pc' := 19) i138_18 rfl rfl ?_
          refine e_un (pc' := 20) i138_19 rfl rfl ?_
          refine e_go i138_20 ?_
          exact (by simp only [if_pos (show a = 1 from (Decidable.not_not.mp (of_decide_eq_false c4)))] at kj3 ⊢; exact kj3)
      exact (by simp only [if_neg (show ¬ (a = 0) from (of_decide_eq_true c2))] at kj1 ⊢; exact kj1)
    · skip
      refine e_ld (pc' := 5) i138_4 rfl rfl ?_
      refine e_un (pc' := 6) i138_5 rfl rfl ?_
      refine e_un (pc' := 7) i138_6 rfl rfl ?_
      refine e_un (pc' := 8) i138_7 rfl rfl ?_
      refine e_go i138_8 ?_
      exact (by simp only [if_pos (show a = 0 from (Decidable.not_not.mp (of_decide_eq_false c2)))] at kj1 ⊢; exact kj1)
  refine e_rt i138_35 rfl ?_
  exact ⟨by unfold F138; skip; rfl, rfl⟩
/-- FloorTurnModel.rowless(I)I -/
def F140 (a : Int32) (h : Hp) : Int32 := if (x_isShelf a) = true then (if (F137 a h) = true then (0) else (if (gI h 420 a.toNatClampNeg) = 0 then ((-2)) else ((-3)))) else ((-1))
def P140 (a : Int32) (h : Hp) : Prop := ((((x_isShelf a) = true) → ((P137 a h) ∧ (((((F137 a h) = true) → (True)) ∧ (¬ ((F137 a h) = true) → ((vp_in a 8) ∧ (True)))) ∧ (True)))) ∧ (¬ ((x_isShelf a) = true) → (True))) ∧ (True)
set_option maxHeartbeats 8000000 in
set_option maxRecDepth 100000 in
theorem m140 {L : Nat} {xs : Nat → Int32} {h : Hp} {a : Int32} (hn : 444 ≤ h.1) (hL : LK h) (hP : P140 a h) : Sp L xs 140 [.ref 397, .int a] h (some (.int (F140 a h))) h := by
  unfold P140 at hP
  refine sp_of (ls := [some (.ref 397), some (.int a)]) rfl ?_
  refine e_ld (pc' := 1) i140_0 rfl rfl ?_
  refine e_cI (w := .int (b2i (x_isShelf a))) (As := [.int a]) (rest := []) (pc' := 4) i140_1 rfl rfl rfl rfl rfl m136 ?_
  obtain ⟨hR10, hP⟩ := hP
  refine e_reg (pc' := 39) (ls' := [some (.ref 397), some (.int a)]) (st' := [.int (if (x_isShelf a) = true then (if (F137 a h) = true then (0) else (if (gI h 420 a.toNatClampNeg) = 0 then ((-2)) else ((-3)))) else ((-1)))]) (fun kj1 => ?_) ?_
  · replace hP := hR10
    refine e_b1 (pc' := 7) i140_4 rfl (fun c2 => ?_) (fun c2 => ?_)
    · replace hP := hP.1 c2
      refine e_ld (pc' := 12) i140_11 rfl rfl ?_
      refine e_ld (pc' := 13) i140_12 rfl rfl ?_
      obtain ⟨g3, hP⟩ := hP
      refine e_cI (w := .int (b2i (F137 a h))) (As := [.ref 397, .int a]) (rest := []) (pc' := 16) i140_13 rfl rfl rfl rfl (by show (Nat.beq (x_kd 137) 0 && x_is 397 _ (MC 137) 0) = true; rw [show x_kd 137 = 0 by decide +kernel, show MC 137 = 11 by decide +kernel, (x_isC (by decide) hn sh397)]; rfl) (m137 hn hL g3) ?_
      obtain ⟨hR9, hP⟩ := hP
      refine e_reg (pc' := 39) (ls' := [some (.ref 397), some (.int a)]) (st' := [.int (if (F137 a h) = true then (0) else (if (gI h 420 a.toNatClampNeg) = 0 then ((-2)) else ((-3))))]) (fun kj4 => ?_) ?_
      · replace hP := hR9
        refine e_b0 (pc' := 19) i140_16 rfl (fun c5 => ?_) (fun c5 => ?_)
        · replace hP := hP.2 (show ¬ (F137 a h) = true by rw [c5]; decide)
          refine e_ld (pc' := 24) i140_23 rfl rfl ?_
          refine e_get (w := .ref 420) (pc' := 27) i140_24 rfl (x_isC (by decide) hn sh397) (x_fvR (by decide +kernel) (hL 397 24 420 lk397_24)) ?_
          refine e_ld (pc' := 28) i140_27 rfl rfl ?_
          obtain ⟨g6, hP⟩ := hP
          refine e_al (n := a.toNatClampNeg) (w := .int (gI h 420 a.toNatClampNeg)) (pc' := 29) i140_28 rfl (x_alX (a := 20) (by decide) hn sh420 (by decide) g6) rfl rfl ?_
          refine e_reg (pc' := 39) (ls' := [some (.ref 397), some (.int a)]) (st' := [.int (if (gI h 420 a.toNatClampNeg) = 0 then ((-2)) else ((-3)))]) (fun kj7 => ?_) ?_
          · skip
            refine e_if (pc' := 32) i140_29 rfl (fun c8 => ?_) (fun c8 => ?_)
            · skip
              refine e_cn (pc' := 39) i140_37 rfl ?_
              exact (by simp only [if_neg (show ¬ ((gI h 420 a.toNatClampNeg) = 0) from (of_decide_eq_true c8))] at kj7 ⊢; exact kj7)
            · skip
              refine e_cn (pc' := 34) i140_32 rfl ?_
              refine e_go i140_34 ?_
              exact (by simp only [if_pos (show (gI h 420 a.toNatClampNeg) = 0 from (Decidable.not_not.mp (of_decide_eq_false c8)))] at kj7 ⊢; exact kj7)
          exact (by simp only [if_neg (show ¬ (F137 a h) = true by rw [c5]; decide)] at kj4 ⊢; exact kj4)
        · replace hP := hP.1 c5
          refine e_cn (pc' := 20) i140_19 rfl ?_
          refine e_go i140_20 ?_
          exact (by simp only [if_pos c5] at kj4 ⊢; exact kj4)
      exact (by simp only [if_pos c2] at kj1 ⊢; exact kj1)
    · replace hP := hP.2 (show ¬ (x_isShelf a) = true by rw [c2]; decide)
      refine e_cn (pc' := 8) i140_7 rfl ?_
      refine e_go i140_8 ?_
      exact (by simp only [if_neg (show ¬ (x_isShelf a) = true by rw [c2]; decide)] at kj1 ⊢; exact kj1)
  refine e_rt i140_39 rfl ?_
  exact ⟨by unfold F140; skip; rfl, rfl⟩
/-- FloorTurnModel.set(IIJ)I -/
def F141 (a : Int32) (b : Int32) (c : Int64) (h : Hp) : Int32 := if (F140 a h) = 0 then (if (x_in3 b 0 ((gI h 421 a.toNatClampNeg) - 1)) = true then (1) else (F124 (-5) h)) else (F124 (F140 a h) h)
def G141 (a : Int32) (b : Int32) (c : Int64) (h : Hp) : Hp := if (F140 a h) = 0 then (if (x_in3 b 0 ((gI h 421 a.toNatClampNeg) - 1)) = true then (sL h 422 (((100 * a) + b).toNatClampNeg) (F138 ((gI h 420 a.toNatClampNeg) - 100) c h)) else (G124 (-5) h)) else (G124 (F140 a h) h)
theorem n_G141 (a : Int32) (b : Int32) (c : Int64) (h : Hp) : (G141 a b c h).1 = h.1 := by
  unfold G141
  (repeat' split) <;> first | (simp only [n_sI, n_aI, n_bI, n_sL, n_sR, n_G124]; done) | rfl
theorem r_G141 (a : Int32) (b : Int32) (c : Int64) (h : Hp) : gR (G141 a b c h) = gR h := by
  unfold G141
  (repeat' split) <;> first | (simp only [gR_sI, gR_aI, gR_bI, gR_sL, r_G124]; done) | rfl
def P141 (a : Int32) (b : Int32) (c : Int64) (h : Hp) : Prop := (P140 a h) ∧ ((((F140 a h) = 0) → ((vp_in a 8) ∧ ((((x_in3 b 0 ((gI h 421 a.toNatClampNeg) - 1)) = true) → ((vp_in a 8) ∧ ((vp_in ((100 * a) + b) 800) ∧ (True)))) ∧ (¬ ((x_in3 b 0 ((gI h 421 a.toNatClampNeg) - 1)) = true) → ((P124 (-5) h) ∧ (True)))))) ∧ (¬ ((F140 a h) = 0) → ((P124 (F140 a h) h) ∧ (True))))
set_option maxHeartbeats 8000000 in
set_option maxRecDepth 100000 in
theorem m141 {L : Nat} {xs : Nat → Int32} {h : Hp} {a : Int32} {b : Int32} {c : Int64} (hn : 444 ≤ h.1) (hL : LK h) (hP : P141 a b c h) : Sp L xs 141 [.ref 397, .int a, .int b, .long c] h (some (.int (F141 a b c h))) (G141 a b c h) := by
  unfold P141 at hP
  refine sp_of (ls := [some (.ref 397), some (.int a), some (.int b), some (.long c), none, none]) rfl ?_
  refine e_ld (pc' := 1) i141_0 rfl rfl ?_
  refine e_ld (pc' := 2) i141_1 rfl rfl ?_
  obtain ⟨g1, hP⟩ := hP
  refine e_cI (w := .int (F140 a h)) (As := [.ref 397, .int a]) (rest := []) (pc' := 5) i141_2 rfl rfl rfl rfl (by show (Nat.beq (x_kd 140) 0 && x_is 397 _ (MC 140) 0) = true; rw [show x_kd 140 = 0 by decide +kernel, show MC 140 = 11 by decide +kernel, (x_isC (by decide) hn sh397)]; rfl) (m140 hn hL g1) ?_
  refine e_st (ls' := [some (.ref 397), some (.int a), some (.int b), some (.long c), none, some (.int (F140 a h))]) (pc' := 7) i141_5 rfl rfl rfl ?_
  refine e_ld (pc' := 9) i141_7 rfl rfl ?_
  refine e_if (pc' := 12) i141_9 rfl (fun c2 => ?_) (fun c2 => ?_)
  · replace hP := hP.1 (of_decide_eq_true c2)
    refine e_ld (pc' := 20) i141_19 rfl rfl ?_
    refine e_cn (pc' := 21) i141_20 rfl ?_
    refine e_ld (pc' := 22) i141_21 rfl rfl ?_
    refine e_get (w := .ref 421) (pc' := 25) i141_22 rfl (x_isC (by decide) hn sh397) (x_fvR (by decide +kernel) (hL 397 25 421 lk397_25)) ?_
    refine e_ld (pc' := 26) i141_25 rfl rfl ?_
    obtain ⟨g3, hP⟩ := hP
    refine e_al (n := a.toNatClampNeg) (w := .int (gI h 421 a.toNatClampNeg)) (pc' := 27) i141_26 rfl (x_alX (a := 20) (by decide) hn sh421 (by decide) g3) rfl rfl ?_
    refine e_cn (pc' := 28) i141_27 rfl ?_
    refine e_ib (z := (gI h 421 a.toNatClampNeg) - 1) (pc' := 29) i141_28 rfl rfl ?_
    refine e_cI (w := .int (b2i (x_in3 b 0 ((gI h 421 a.toNatClampNeg) - 1)))) (As := [.int b, .int 0, .int ((gI h 421 a.toNatClampNeg) - 1)]) (rest := []) (pc' := 32) i141_29 rfl rfl rfl rfl rfl m123 ?_
    refine e_b1 (pc' := 35) i141_32 rfl (fun c4 => ?_) (fun c4 => ?_)
    · replace hP := hP.1 c4
      refine e_ld (pc' := 43) i141_42 rfl rfl ?_
      refine e_get (w := .ref 422) (pc' := 46) i141_43 rfl (x_isC (by decide) hn sh397) (x_fvR (by decide +kernel) (hL 397 26 422 lk397_26)) ?_
      refine e_cn (pc' := 48) i141_46 rfl ?_
      refine e_ld (pc' := 49) i141_48 rfl rfl ?_
      refine e_ib (z := 100 * a) (pc' := 50) i141_49 rfl rfl ?_
      refine e_ld (pc' := 51) i141_50 rfl rfl ?_
      refine e_ib (z := (100 * a) + b) (pc' := 52) i141_51 rfl rfl ?_
      refine e_ld (pc' := 53) i141_52 rfl rfl ?_
      refine e_get (w := .ref 420) (pc' := 56) i141_53 rfl (x_isC (by decide) hn sh397) (x_fvR (by decide +kernel) (hL 397 24 420 lk397_24)) ?_
      refine e_ld (pc' := 57) i141_56 rfl rfl ?_
      obtain ⟨g5, hP⟩ := hP
      refine e_al (n := a.toNatClampNeg) (w := .int (gI h 420 a.toNatClampNeg)) (pc' := 58) i141_57 rfl (x_alX (a := 20) (by decide) hn sh420 (by decide) g5) rfl rfl ?_
      refine e_cn (pc' := 60) i141_58 rfl ?_
      refine e_ib (z := (gI h 420 a.toNatClampNeg) - 100) (pc' := 61) i141_60 rfl rfl ?_
      refine e_ld (pc' := 62) i141_61 rfl rfl ?_
      refine e_cI (w := .long (F138 ((gI h 420 a.toNatClampNeg) - 100) c h)) (As := [.int ((gI h 420 a.toNatClampNeg) - 100), .long c]) (rest := [.int ((100 * a) + b), .ref 422]) (pc' := 65) i141_62 rfl rfl rfl rfl rfl m138 ?_
      obtain ⟨g6, hP⟩ := hP
      refine e_as (n := ((100 * a) + b).toNatClampNeg) (h' := sL h 422 (((100 * a) + b).toNatClampNeg) (F138 ((gI h 420 a.toNatClampNeg) - 100) c h)) (pc' := 66) i141_65 rfl (x_alX (a := 21) (by decide) hn sh422 (by decide) g6) rfl (by rw [show (SH 422).1 = 21 by rw [sh422]]; rfl) ?_
      have hn7 : 444 ≤ (sL h 422 (((100 * a) + b).toNatClampNeg) (F138 ((gI h 420 a.toNatClampNeg) - 100) c h)).1 := le_sL hn
      have hL7 : LK (sL h 422 (((100 * a) + b).toNatClampNeg) (F138 ((gI h 420 a.toNatClampNeg) - 100) c h)) := LK_sL hL
      refine e_cn (pc' := 67) i141_66 rfl ?_
      refine e_rt i141_67 rfl ?_
      exact ⟨by unfold F141; simp only [if_pos (show (F140 a h) = 0 from (of_decide_eq_true c2)), if_pos c4], by unfold G141; simp only [if_pos (show (F140 a h) = 0 from (of_decide_eq_true c2)), if_pos c4]⟩
    · replace hP := hP.2 (show ¬ (x_in3 b 0 ((gI h 421 a.toNatClampNeg) - 1)) = true by rw [c4]; decide)
      refine e_ld (pc' := 36) i141_35 rfl rfl ?_
      refine e_cn (pc' := 38) i141_36 rfl ?_
      obtain ⟨g8, hP⟩ := hP
      refine e_cI (w := .int (F124 (-5) h)) (As := [.ref 397, .int (-5)]) (rest := []) (pc' := 41) i141_38 rfl rfl rfl rfl (by show (Nat.beq (x_kd 124) 0 && x_is 397 _ (MC 124) 0) = true; rw [show x_kd 124 = 0 by decide +kernel, show MC 124 = 11 by decide +kernel, (x_isC (by decide) hn sh397)]; rfl) (m124 hn hL g8) ?_
      have hn9 : 444 ≤ (G124 (-5) h).1 := by rw [n_G124]; exact hn
      have hL9 : LK (G124 (-5) h) := by unfold LK; rw [r_G124]; exact hL
      refine e_rt i141_41 rfl ?_
      exact ⟨by unfold F141; simp only [if_pos (show (F140 a h) = 0 from (of_decide_eq_true c2)), if_neg (show ¬ (x_in3 b 0 ((gI h 421 a.toNatClampNeg) - 1)) = true by rw [c4]; decide)], by unfold G141; simp only [if_pos (show (F140 a h) = 0 from (of_decide_eq_true c2)), if_neg (show ¬ (x_in3 b 0 ((gI h 421 a.toNatClampNeg) - 1)) = true by rw [c4]; decide)]⟩
  · replace hP := hP.2 (of_decide_eq_false c2)
    refine e_ld (pc' := 13) i141_12 rfl rfl ?_
    refine e_ld (pc' := 15) i141_13 rfl rfl ?_
    obtain ⟨g10, hP⟩ := hP
    refine e_cI (w := .int (F124 (F140 a h) h)) (As := [.ref 397, .int (F140 a h)]) (rest := []) (pc' := 18) i141_15 rfl rfl rfl rfl (by show (Nat.beq (x_kd 124) 0 && x_is 397 _ (MC 124) 0) = true; rw [show x_kd 124 = 0 by decide +kernel, show MC 124 = 11 by decide +kernel, (x_isC (by decide) hn sh397)]; rfl) (m124 hn hL g10) ?_
    have hn11 : 444 ≤ (G124 (F140 a h) h).1 := by rw [n_G124]; exact hn
    have hL11 : LK (G124 (F140 a h) h) := by unfold LK; rw [r_G124]; exact hL
    refine e_rt i141_18 rfl ?_
    exact ⟨by unfold F141; simp only [if_neg (show ¬ ((F140 a h) = 0) from (of_decide_eq_false c2))], by unfold G141; simp only [if_neg (show ¬ ((F140 a h) = 0) from (of_decide_eq_false c2))]⟩
/-- FloorTurnModel.element(II)J -/
def F143 (a : Int32) (b : Int32) (h : Hp) : Int64 := if (x_isShelf a) = true then (if (F137 a h) = true then (if (x_in3 b 0 ((gI h 421 a.toNatClampNeg) - 1)) = true then (gL h 422 (((100 * a) + b).toNatClampNeg)) else (0)) else (0)) else (0)
def P143 (a : Int32) (b : Int32) (h : Hp) : Prop := ((((x_isShelf a) = true) → ((P137 a h) ∧ (((((F137 a h) = true) → ((vp_in a 8) ∧ (((((x_in3 b 0 ((gI h 421 a.toNatClampNeg) - 1)) = true) → ((vp_in ((100 * a) + b) 800) ∧ (True))) ∧ (¬ ((x_in3 b 0 ((gI h 421 a.toNatClampNeg) - 1)) = true) → (True))) ∧ (True)))) ∧ (¬ ((F137 a h) = true) → (True))) ∧ (True)))) ∧ (¬ ((x_isShelf a) = true) → (True))) ∧ (True)
set_option maxHeartbeats 8000000 in
set_option maxRecDepth 100000 in
theorem m143 {L : Nat} {xs : Nat → Int32} {h : Hp} {a : Int32} {b : Int32} (hn : 444 ≤ h.1) (hL : LK h) (hP : P143 a b h) : Sp L xs 143 [.ref 397, .int a, .int b] h (some (.long (F143 a b h))) h := by
  unfold P143 at hP
  refine sp_of (ls := [some (.ref 397), some (.int a), some (.int b)]) rfl ?_
  refine e_ld (pc' := 1) i143_0 rfl rfl ?_
  refine e_cI (w := .int (b2i (x_isShelf a))) (As := [.int a]) (rest := []) (pc' := 4) i143_1 rfl rfl rfl rfl rfl m136 ?_
  obtain ⟨hR12, hP⟩ := hP
  refine e_reg (pc' := 46) (ls' := [some (.ref 397), some (.int a), some (.int b)]) (st' := [.long (if (x_isShelf a) = true then (if (F137 a h) = true then (if (x_in3 b 0 ((gI h 421 a.toNatClampNeg) - 1)) = true then (gL h 422 (((100 * a) + b).toNatClampNeg)) else (0)) else (0)) else (0))]) (fun kj1 => ?_) ?_
  · replace hP := hR12
    refine e_b0 (pc' := 7) i143_4 rfl (fun c2 => ?_) (fun c2 => ?_)
    · replace hP := hP.2 (show ¬ (x_isShelf a) = true by rw [c2]; decide)
      refine e_cn (pc' := 46) i143_45 rfl ?_
      exact (by simp only [if_neg (show ¬ (x_isShelf a) = true by rw [c2]; decide)] at kj1 ⊢; exact kj1)
    · replace hP := hP.1 c2
      refine e_ld (pc' := 8) i143_7 rfl rfl ?_
      refine e_ld (pc' := 9) i143_8 rfl rfl ?_
      obtain ⟨g3, hP⟩ := hP
      refine e_cI (w := .int (b2i (F137 a h))) (As := [.ref 397, .int a]) (rest := []) (pc' := 12) i143_9 rfl rfl rfl rfl (by show (Nat.beq (x_kd 137) 0 && x_is 397 _ (MC 137) 0) = true; rw [show x_kd 137 = 0 by decide +kernel, show MC 137 = 11 by decide +kernel, (x_isC (by decide) hn sh397)]; rfl) (m137 hn hL g3) ?_
      obtain ⟨hR11, hP⟩ := hP
      refine e_reg (pc' := 46) (ls' := [some (.ref 397), some (.int a), some (.int b)]) (st' := [.long (if (F137 a h) = true then (if (x_in3 b 0 ((gI h 421 a.toNatClampNeg) - 1)) = true then (gL h 422 (((100 * a) + b).toNatClampNeg)) else (0)) else (0))]) (fun kj4 => ?_) ?_
      · replace hP := hR11
        refine e_b0 (pc' := 15) i143_12 rfl (fun c5 => ?_) (fun c5 => ?_)
        · replace hP := hP.2 (show ¬ (F137 a h) = true by rw [c5]; decide)
          refine e_cn (pc' := 46) i143_45 rfl ?_
          exact (by simp only [if_neg (show ¬ (F137 a h) = true by rw [c5]; decide)] at kj4 ⊢; exact kj4)
        · replace hP := hP.1 c5
          refine e_ld (pc' := 16) i143_15 rfl rfl ?_
          refine e_cn (pc' := 17) i143_16 rfl ?_
          refine e_ld (pc' := 18) i143_17 rfl rfl ?_
          refine e_get (w := .ref 421) (pc' := 21) i143_18 rfl (x_isC (by decide) hn sh397) (x_fvR (by decide +kernel) (hL 397 25 421 lk397_25)) ?_
          refine e_ld (pc' := 22) i143_21 rfl rfl ?_
          obtain ⟨g6, hP⟩ := hP
          refine e_al (n := a.toNatClampNeg) (w := .int (gI h 421 a.toNatClampNeg)) (pc' := 23) i143_22 rfl (x_alX (a := 20) (by decide) hn sh421 (by decide) g6) rfl rfl ?_
          refine e_cn (pc' := 24) i143_23 rfl ?_
          refine e_ib (z := (gI h 421 a.toNatClampNeg) - 1) (pc' := 25) i143_24 rfl rfl ?_
          refine e_cI (w := .int (b2i (x_in3 b 0 ((gI h 421 a.toNatClampNeg) - 1)))) (As := [.int b, .int 0, .int ((gI h 421 a.toNatClampNeg) - 1)]) (rest := []) (pc' := 28) i143_25 rfl rfl rfl rfl rfl m123 ?_
          obtain ⟨hR10, hP⟩ := hP
          refine e_reg (pc' := 46) (ls' := [some (.ref 397), some (.int a), some (.int b)]) (st' := [.long (if (x_in3 b 0 ((gI h 421 a.toNatClampNeg) - 1)) = true then (gL h 422 (((100 * a) + b).toNatClampNeg)) else (0))]) (fun kj7 => ?_) ?_
          · replace hP := hR10
            refine e_b0 (pc' := 31) i143_28 rfl (fun c8 => ?_) (fun c8 => ?_)
            · replace hP := hP.2 (show ¬ (x_in3 b 0 ((gI h 421 a.toNatClampNeg) - 1)) = true by rw [c8]; decide)
              refine e_cn (pc' := 46) i143_45 rfl ?_
              exact (by simp only [if_neg (show ¬ (x_in3 b 0 ((gI h 421 a.toNatClampNeg) - 1)) = true by rw [c8]; decide)] at kj7 ⊢; exact kj7)
            · replace hP := hP.1 c8
              refine e_ld (pc' := 32) i143_31 rfl rfl ?_
              refine e_get (w := .ref 422) (pc' := 35) i143_32 rfl (x_isC (by decide) hn sh397) (x_fvR (by decide +kernel) (hL 397 26 422 lk397_26)) ?_
              refine e_cn (pc' := 37) i143_35 rfl ?_
              refine e_ld (pc' := 38) i143_37 rfl rfl ?_
              refine e_ib (z := 100 * a) (pc' := 39) i143_38 rfl rfl ?_
              refine e_ld (pc' := 40) i143_39 rfl rfl ?_
              refine e_ib (z := (100 * a) + b) (pc' := 41) i143_40 rfl rfl ?_
              obtain ⟨g9, hP⟩ := hP
              refine e_al (n := ((100 * a) + b).toNatClampNeg) (w := .long (gL h 422 (((100 * a) + b).toNatClampNeg))) (pc' := 42) i143_41 rfl (x_alX (a := 21) (by decide) hn sh422 (by decide) g9) rfl rfl ?_
              refine e_go i143_42 ?_
              exact (by simp only [if_pos c8] at kj7 ⊢; exact kj7)
          exact (by simp only [if_pos c5] at kj4 ⊢; exact kj4)
      exact (by simp only [if_pos c2] at kj1 ⊢; exact kj1)
  refine e_rt i143_46 rfl ?_
  exact ⟨by unfold F143; skip; rfl, rfl⟩
/-- FloorTurnModel.clear(I)I -/
def F144 (a : Int32) (h : Hp) : Int32 := if (x_isShelf a) = true then (b2i (if (gI h 420 a.toNatClampNeg) = (-1) then (false) else (true))) else (F124 (-1) h)
def G144 (a : Int32) (h : Hp) : Hp := if (x_isShelf a) = true then (sI h 420 a.toNatClampNeg (-1)) else (G124 (-1) h)
theorem n_G144 (a : Int32) (h : Hp) : (G144 a h).1 = h.1 := by
  unfold G144
  (repeat' split) <;> first | (simp only [n_sI, n_aI, n_bI, n_sL, n_sR, n_G124]; done) | rfl
theorem r_G144 (a : Int32) (h : Hp) : gR (G144 a h) = gR h := by
  unfold G144
  (repeat' split) <;> first | (simp only [gR_sI, gR_aI, gR_bI, gR_sL, r_G124]; done) | rfl
def P144 (a : Int32) (h : Hp) : Prop := (((x_isShelf a) = true) → ((vp_in a 8) ∧ ((vp_in a 8) ∧ (True)))) ∧ (¬ ((x_isShelf a) = true) → ((P124 (-1) h) ∧ (True)))
set_option maxHeartbeats 8000000 in
set_option maxRecDepth 100000 in
theorem m144 {L : Nat} {xs : Nat → Int32} {h : Hp} {a : Int32} (hn : 444 ≤ h.1) (hL : LK h) (hP : P144 a h) : Sp L xs 144 [.ref 397, .int a] h (some (.int (F144 a h))) (G144 a h) := by
  unfold P144 at hP
  refine sp_of (ls := [some (.ref 397), some (.int a), none]) rfl ?_
  refine e_ld (pc' := 1) i144_0 rfl rfl ?_
  refine e_cI (w := .int (b2i (x_isShelf a))) (As := [.int a]) (rest := []) (pc' := 4) i144_1 rfl rfl rfl rfl rfl m136 ?_
  refine e_b1 (pc' := 7) i144_4 rfl (fun c1 => ?_) (fun c1 => ?_)
  · replace hP := hP.1 c1
    refine e_ld (pc' := 14) i144_13 rfl rfl ?_
    refine e_get (w := .ref 420) (pc' := 17) i144_14 rfl (x_isC (by decide) hn sh397) (x_fvR (by decide +kernel) (hL 397 24 420 lk397_24)) ?_
    refine e_ld (pc' := 18) i144_17 rfl rfl ?_
    obtain ⟨g2, hP⟩ := hP
    refine e_al (n := a.toNatClampNeg) (w := .int (gI h 420 a.toNatClampNeg)) (pc' := 19) i144_18 rfl (x_alX (a := 20) (by decide) hn sh420 (by decide) g2) rfl rfl ?_
    refine e_st (ls' := [some (.ref 397), some (.int a), some (.int (gI h 420 a.toNatClampNeg))]) (pc' := 20) i144_19 rfl rfl rfl ?_
    refine e_ld (pc' := 21) i144_20 rfl rfl ?_
    refine e_get (w := .ref 420) (pc' := 24) i144_21 rfl (x_isC (by decide) hn sh397) (x_fvR (by decide +kernel) (hL 397 24 420 lk397_24)) ?_
    refine e_ld (pc' := 25) i144_24 rfl rfl ?_
    refine e_cn (pc' := 26) i144_25 rfl ?_
    obtain ⟨g3, hP⟩ := hP
    refine e_as (n := a.toNatClampNeg) (h' := sI h 420 a.toNatClampNeg (-1)) (pc' := 27) i144_26 rfl (x_alX (a := 20) (by decide) hn sh420 (by decide) g3) rfl (by rw [show (SH 420).1 = 20 by rw [sh420]]; rfl) ?_
    have hn4 : 444 ≤ (sI h 420 a.toNatClampNeg (-1)).1 := le_sI hn
    have hL4 : LK (sI h 420 a.toNatClampNeg (-1)) := LK_sI hL
    refine e_ld (pc' := 28) i144_27 rfl rfl ?_
    refine e_cn (pc' := 29) i144_28 rfl ?_
    refine e_reg (pc' := 37) (ls' := [some (.ref 397), some (.int a), some (.int (gI h 420 a.toNatClampNeg))]) (st' := [.int (b2i (if (gI h 420 a.toNatClampNeg) = (-1) then (false) else (true)))]) (fun kj5 => ?_) ?_
    · skip
      refine e_ic (pc' := 32) i144_29 rfl (fun c6 => ?_) (fun c6 => ?_)
      · skip
        refine e_cn (pc' := 37) i144_36 rfl ?_
        exact (by simp only [if_neg (show ¬ ((gI h 420 a.toNatClampNeg) = (-1)) from (of_decide_eq_true c6))] at kj5 ⊢; exact kj5)
      · skip
        refine e_cn (pc' := 33) i144_32 rfl ?_
        refine e_go i144_33 ?_
        exact (by simp only [if_pos (show (gI h 420 a.toNatClampNeg) = (-1) from (Decidable.not_not.mp (of_decide_eq_false c6)))] at kj5 ⊢; exact kj5)
    refine e_rt i144_37 rfl ?_
    exact ⟨by unfold F144; simp only [if_pos c1], by unfold G144; simp only [if_pos c1]⟩
  · replace hP := hP.2 (show ¬ (x_isShelf a) = true by rw [c1]; decide)
    refine e_ld (pc' := 8) i144_7 rfl rfl ?_
    refine e_cn (pc' := 9) i144_8 rfl ?_
    obtain ⟨g7, hP⟩ := hP
    refine e_cI (w := .int (F124 (-1) h)) (As := [.ref 397, .int (-1)]) (rest := []) (pc' := 12) i144_9 rfl rfl rfl rfl (by show (Nat.beq (x_kd 124) 0 && x_is 397 _ (MC 124) 0) = true; rw [show x_kd 124 = 0 by decide +kernel, show MC 124 = 11 by decide +kernel, (x_isC (by decide) hn sh397)]; rfl) (m124 hn hL g7) ?_
    have hn8 : 444 ≤ (G124 (-1) h).1 := by rw [n_G124]; exact hn
    have hL8 : LK (G124 (-1) h) := by unfold LK; rw [r_G124]; exact hL
    refine e_rt i144_12 rfl ?_
    exact ⟨by unfold F144; simp only [if_neg (show ¬ (x_isShelf a) = true by rw [c1]; decide)], by unfold G144; simp only [if_neg (show ¬ (x_isShelf a) = true by rw [c1]; decide)]⟩
/-- FloorTurnModel.holds(I)I -/
def F145 (a : Int32) (h : Hp) : Int32 := if (x_isShelf a) = true then (gI h 420 a.toNatClampNeg) else ((-1))
def P145 (a : Int32) (h : Hp) : Prop := ((((x_isShelf a) = true) → ((vp_in a 8) ∧ (True))) ∧ (¬ ((x_isShelf a) = true) → (True))) ∧ (True)
set_option maxHeartbeats 8000000 in
set_option maxRecDepth 100000 in
theorem m145 {L : Nat} {xs : Nat → Int32} {h : Hp} {a : Int32} (hn : 444 ≤ h.1) (hL : LK h) (hP : P145 a h) : Sp L xs 145 [.ref 397, .int a] h (some (.int (F145 a h))) h := by
  unfold P145 at hP
  refine sp_of (ls := [some (.ref 397), some (.int a)]) rfl ?_
  refine e_ld (pc' := 1) i145_0 rfl rfl ?_
  refine e_cI (w := .int (b2i (x_isShelf a))) (As := [.int a]) (rest := []) (pc' := 4) i145_1 rfl rfl rfl rfl rfl m136 ?_
  obtain ⟨hR4, hP⟩ := hP
  refine e_reg (pc' := 17) (ls' := [some (.ref 397), some (.int a)]) (st' := [.int (if (x_isShelf a) = true then (gI h 420 a.toNatClampNeg) else ((-1)))]) (fun kj1 => ?_) ?_
  · replace hP := hR4
    refine e_b0 (pc' := 7) i145_4 rfl (fun c2 => ?_) (fun c2 => ?_)
    · replace hP := hP.2 (show ¬ (x_isShelf a) = true by rw [c2]; decide)
      refine e_cn (pc' := 17) i145_16 rfl ?_
      exact (by simp only [if_neg (show ¬ (x_isShelf a) = true by rw [c2]; decide)] at kj1 ⊢; exact kj1)
    · replace hP := hP.1 c2
      refine e_ld (pc' := 8) i145_7 rfl rfl ?_
      refine e_get (w := .ref 420) (pc' := 11) i145_8 rfl (x_isC (by decide) hn sh397) (x_fvR (by decide +kernel) (hL 397 24 420 lk397_24)) ?_
      refine e_ld (pc' := 12) i145_11 rfl rfl ?_
      obtain ⟨g3, hP⟩ := hP
      refine e_al (n := a.toNatClampNeg) (w := .int (gI h 420 a.toNatClampNeg)) (pc' := 13) i145_12 rfl (x_alX (a := 20) (by decide) hn sh420 (by decide) g3) rfl rfl ?_
      refine e_go i145_13 ?_
      exact (by simp only [if_pos c2] at kj1 ⊢; exact kj1)
  refine e_rt i145_17 rfl ?_
  exact ⟨by unfold F145; skip; rfl, rfl⟩
/-- FloorTurnModel.cell(II)I -/
def F146 (a : Int32) (b : Int32) (h : Hp) : Int32 := (gL h 422 (((100 * a) + b).toNatClampNeg)).toInt32
def P146 (a : Int32) (b : Int32) (h : Hp) : Prop := (vp_in ((100 * a) + b) 800) ∧ (True)
set_option maxHeartbeats 8000000 in
set_option maxRecDepth 100000 in
theorem m146 {L : Nat} {xs : Nat → Int32} {h : Hp} {a : Int32} {b : Int32} (hn : 444 ≤ h.1) (hL : LK h) (hP : P146 a b h) : Sp L xs 146 [.ref 397, .int a, .int b] h (some (.int (F146 a b h))) h := by
  unfold P146 at hP
  refine sp_of (ls := [some (.ref 397), some (.int a), some (.int b)]) rfl ?_
  refine e_ld (pc' := 1) i146_0 rfl rfl ?_
  refine e_get (w := .ref 422) (pc' := 4) i146_1 rfl (x_isC (by decide) hn sh397) (x_fvR (by decide +kernel) (hL 397 26 422 lk397_26)) ?_
  refine e_cn (pc' := 6) i146_4 rfl ?_
  refine e_ld (pc' := 7) i146_6 rfl rfl ?_
  refine e_ib (z := 100 * a) (pc' := 8) i146_7 rfl rfl ?_
  refine e_ld (pc' := 9) i146_8 rfl rfl ?_
  refine e_ib (z := (100 * a) + b) (pc' := 10) i146_9 rfl rfl ?_
  obtain ⟨g1, hP⟩ := hP
  refine e_al (n := ((100 * a) + b).toNatClampNeg) (w := .long (gL h 422 (((100 * a) + b).toNatClampNeg))) (pc' := 11) i146_10 rfl (x_alX (a := 21) (by decide) hn sh422 (by decide) g1) rfl rfl ?_
  refine e_un (pc' := 12) i146_11 rfl rfl ?_
  refine e_rt i146_12 rfl ?_
  exact ⟨by unfold F146; skip; rfl, rfl⟩
/-- FloorTurnModel.turnedSide(III)I -/
def F150 (a : Int32) (b : Int32) (c : Int32) (h : Hp) : Int32 := if a = 4 then (((b <<< ((c : Int32) &&& 31)) ||| (b >>> (((4 - c) : Int32) &&& 31))) &&& 15) else ((b + c) - (b + c) / 4 * 4)
set_option maxHeartbeats 8000000 in
set_option maxRecDepth 100000 in
theorem m150 {L : Nat} {xs : Nat → Int32} {h : Hp} {a : Int32} {b : Int32} {c : Int32}  : Sp L xs 150 [.int a, .int b, .int c] h (some (.int (F150 a b c h))) h := by
  refine sp_of (ls := [some (.int a), some (.int b), some (.int c)]) rfl ?_
  refine e_ld (pc' := 1) i150_0 rfl rfl ?_
  refine e_cn (pc' := 2) i150_1 rfl ?_
  refine e_reg (pc' := 25) (ls' := [some (.int a), some (.int b), some (.int c)]) (st' := [.int (if a = 4 then (((b <<< ((c : Int32) &&& 31)) ||| (b >>> (((4 - c) : Int32) &&& 31))) &&& 15) else ((b + c) - (b + c) / 4 * 4))]) (fun kj1 => ?_) ?_
  · skip
    refine e_ic (pc' := 5) i150_2 rfl (fun c2 => ?_) (fun c2 => ?_)
    · skip
      refine e_ld (pc' := 21) i150_20 rfl rfl ?_
      refine e_ld (pc' := 22) i150_21 rfl rfl ?_
      refine e_ib (z := b + c) (pc' := 23) i150_22 rfl rfl ?_
      refine e_cn (pc' := 24) i150_23 rfl ?_
      refine e_ib (z := (b + c) - (b + c) / 4 * 4) (pc' := 25) i150_24 rfl (x_ib_rem (by decide)) ?_
      exact (by simp only [if_neg (show ¬ (a = 4) from (of_decide_eq_true c2))] at kj1 ⊢; exact kj1)
    · skip
      refine e_ld (pc' := 6) i150_5 rfl rfl ?_
      refine e_ld (pc' := 7) i150_6 rfl rfl ?_
      refine e_ib (z := b <<< ((c : Int32) &&& 31)) (pc' := 8) i150_7 rfl rfl ?_
      refine e_ld (pc' := 9) i150_8 rfl rfl ?_
      refine e_cn (pc' := 10) i150_9 rfl ?_
      refine e_ld (pc' := 11) i150_10 rfl rfl ?_
      refine e_ib (z := 4 - c) (pc' := 12) i150_11 rfl rfl ?_
      refine e_ib (z := b >>> (((4 - c) : Int32) &&& 31)) (pc' := 13) i150_12 rfl rfl ?_
      refine e_ib (z := (b <<< ((c : Int32) &&& 31)) ||| (b >>> (((4 - c) : Int32) &&& 31))) (pc' := 14) i150_13 rfl rfl ?_
      refine e_cn (pc' := 16) i150_14 rfl ?_
      refine e_ib (z := ((b <<< ((c : Int32) &&& 31)) ||| (b >>> (((4 - c) : Int32) &&& 31))) &&& 15) (pc' := 17) i150_16 rfl rfl ?_
      refine e_go i150_17 ?_
      exact (by simp only [if_pos (show a = 4 from (Decidable.not_not.mp (of_decide_eq_false c2)))] at kj1 ⊢; exact kj1)
  refine e_rt i150_25 rfl ?_
  exact ⟨by unfold F150; skip; rfl, rfl⟩
/-- FloorTurnModel.pieceless(I)I -/
def F152 (a : Int32) (h : Hp) : Int32 := if (F137 a h) = true then ((-2)) else (if (gI h 420 a.toNatClampNeg) = (-1) then ((-3)) else (0))
def P152 (a : Int32) (h : Hp) : Prop := (P137 a h) ∧ (((((F137 a h) = true) → (True)) ∧ (¬ ((F137 a h) = true) → ((vp_in a 8) ∧ (True)))) ∧ (True))
set_option maxHeartbeats 8000000 in
set_option maxRecDepth 100000 in
theorem m152 {L : Nat} {xs : Nat → Int32} {h : Hp} {a : Int32} (hn : 444 ≤ h.1) (hL : LK h) (hP : P152 a h) : Sp L xs 152 [.ref 397, .int a] h (some (.int (F152 a h))) h := by
  unfold P152 at hP
  refine sp_of (ls := [some (.ref 397), some (.int a)]) rfl ?_
  refine e_ld (pc' := 1) i152_0 rfl rfl ?_
  refine e_ld (pc' := 2) i152_1 rfl rfl ?_
  obtain ⟨g1, hP⟩ := hP
  refine e_cI (w := .int (b2i (F137 a h))) (As := [.ref 397, .int a]) (rest := []) (pc' := 5) i152_2 rfl rfl rfl rfl (by show (Nat.beq (x_kd 137) 0 && x_is 397 _ (MC 137) 0) = true; rw [show x_kd 137 = 0 by decide +kernel, show MC 137 = 11 by decide +kernel, (x_isC (by decide) hn sh397)]; rfl) (m137 hn hL g1) ?_
  obtain ⟨hR7, hP⟩ := hP
  refine e_reg (pc' := 29) (ls' := [some (.ref 397), some (.int a)]) (st' := [.int (if (F137 a h) = true then ((-2)) else (if (gI h 420 a.toNatClampNeg) = (-1) then ((-3)) else (0)))]) (fun kj2 => ?_) ?_
  · replace hP := hR7
    refine e_b0 (pc' := 8) i152_5 rfl (fun c3 => ?_) (fun c3 => ?_)
    · replace hP := hP.2 (show ¬ (F137 a h) = true by rw [c3]; decide)
      refine e_ld (pc' := 14) i152_13 rfl rfl ?_
      refine e_get (w := .ref 420) (pc' := 17) i152_14 rfl (x_isC (by decide) hn sh397) (x_fvR (by decide +kernel) (hL 397 24 420 lk397_24)) ?_
      refine e_ld (pc' := 18) i152_17 rfl rfl ?_
      obtain ⟨g4, hP⟩ := hP
      refine e_al (n := a.toNatClampNeg) (w := .int (gI h 420 a.toNatClampNeg)) (pc' := 19) i152_18 rfl (x_alX (a := 20) (by decide) hn sh420 (by decide) g4) rfl rfl ?_
      refine e_cn (pc' := 20) i152_19 rfl ?_
      refine e_reg (pc' := 29) (ls' := [some (.ref 397), some (.int a)]) (st' := [.int (if (gI h 420 a.toNatClampNeg) = (-1) then ((-3)) else (0))]) (fun kj5 => ?_) ?_
      · skip
        refine e_ic (pc' := 23) i152_20 rfl (fun c6 => ?_) (fun c6 => ?_)
        · skip
          refine e_cn (pc' := 29) i152_28 rfl ?_
          exact (by simp only [if_neg (show ¬ ((gI h 420 a.toNatClampNeg) = (-1)) from (of_decide_eq_true c6))] at kj5 ⊢; exact kj5)
        · skip
          refine e_cn (pc' := 25) i152_23 rfl ?_
          refine e_go i152_25 ?_
          exact (by simp only [if_pos (show (gI h 420 a.toNatClampNeg) = (-1) from (Decidable.not_not.mp (of_decide_eq_false c6)))] at kj5 ⊢; exact kj5)
      exact (by simp only [if_neg (show ¬ (F137 a h) = true by rw [c3]; decide)] at kj2 ⊢; exact kj2)
    · replace hP := hP.1 c3
      refine e_cn (pc' := 10) i152_8 rfl ?_
      refine e_go i152_10 ?_
      exact (by simp only [if_pos c3] at kj2 ⊢; exact kj2)
  refine e_rt i152_29 rfl ?_
  exact ⟨by unfold F152; skip; rfl, rfl⟩
/-- FloorTurnModel.offered(II)I -/
def F156 (a : Int32) (b : Int32) (h : Hp) : Int32 := if (gI h 405 b.toNatClampNeg) = 6 then (if (gI h 414 (((144 * a) + b).toNatClampNeg)) ≤ 0 then (0) else (gI h 400 ((gI h 407 b.toNatClampNeg).toNatClampNeg))) else (gI h 412 (((144 * a) + b).toNatClampNeg))
def P156 (a : Int32) (b : Int32) (h : Hp) : Prop := (vp_in b 144) ∧ (((((gI h 405 b.toNatClampNeg) = 6) → ((vp_in ((144 * a) + b) 432) ∧ (((((gI h 414 (((144 * a) + b).toNatClampNeg)) ≤ 0) → (True)) ∧ (¬ ((gI h 414 (((144 * a) + b).toNatClampNeg)) ≤ 0) → ((vp_in b 144) ∧ ((vp_in (gI h 407 b.toNatClampNeg) 8) ∧ (True))))) ∧ (True)))) ∧ (¬ ((gI h 405 b.toNatClampNeg) = 6) → ((vp_in ((144 * a) + b) 432) ∧ (True)))) ∧ (True))
set_option maxHeartbeats 8000000 in
set_option maxRecDepth 100000 in
theorem m156 {L : Nat} {xs : Nat → Int32} {h : Hp} {a : Int32} {b : Int32} (hn : 444 ≤ h.1) (hL : LK h) (hP : P156 a b h) : Sp L xs 156 [.ref 397, .int a, .int b] h (some (.int (F156 a b h))) h := by
  unfold P156 at hP
  refine sp_of (ls := [some (.ref 397), some (.int a), some (.int b)]) rfl ?_
  refine e_ld (pc' := 1) i156_0 rfl rfl ?_
  refine e_get (w := .ref 405) (pc' := 4) i156_1 rfl (x_isC (by decide) hn sh397) (x_fvR (by decide +kernel) (hL 397 8 405 lk397_8)) ?_
  refine e_ld (pc' := 5) i156_4 rfl rfl ?_
  obtain ⟨g1, hP⟩ := hP
  refine e_al (n := b.toNatClampNeg) (w := .int (gI h 405 b.toNatClampNeg)) (pc' := 6) i156_5 rfl (x_alX (a := 20) (by decide) hn sh405 (by decide) g1) rfl rfl ?_
  refine e_cn (pc' := 8) i156_6 rfl ?_
  obtain ⟨hR11, hP⟩ := hP
  refine e_reg (pc' := 56) (ls' := [some (.ref 397), some (.int a), some (.int b)]) (st' := [.int (if (gI h 405 b.toNatClampNeg) = 6 then (if (gI h 414 (((144 * a) + b).toNatClampNeg)) ≤ 0 then (0) else (gI h 400 ((gI h 407 b.toNatClampNeg).toNatClampNeg))) else (gI h 412 (((144 * a) + b).toNatClampNeg)))]) (fun kj2 => ?_) ?_
  · replace hP := hR11
    refine e_ic (pc' := 11) i156_8 rfl (fun c3 => ?_) (fun c3 => ?_)
    · replace hP := hP.2 (of_decide_eq_true c3)
      refine e_ld (pc' := 45) i156_44 rfl rfl ?_
      refine e_get (w := .ref 412) (pc' := 48) i156_45 rfl (x_isC (by decide) hn sh397) (x_fvR (by decide +kernel) (hL 397 16 412 lk397_16)) ?_
      refine e_cn (pc' := 51) i156_48 rfl ?_
      refine e_ld (pc' := 52) i156_51 rfl rfl ?_
      refine e_ib (z := 144 * a) (pc' := 53) i156_52 rfl rfl ?_
      refine e_ld (pc' := 54) i156_53 rfl rfl ?_
      refine e_ib (z := (144 * a) + b) (pc' := 55) i156_54 rfl rfl ?_
      obtain ⟨g4, hP⟩ := hP
      refine e_al (n := ((144 * a) + b).toNatClampNeg) (w := .int (gI h 412 (((144 * a) + b).toNatClampNeg))) (pc' := 56) i156_55 rfl (x_alX (a := 20) (by decide) hn sh412 (by decide) g4) rfl rfl ?_
      exact (by simp only [if_neg (show ¬ ((gI h 405 b.toNatClampNeg) = 6) from (of_decide_eq_true c3))] at kj2 ⊢; exact kj2)
    · replace hP := hP.1 (Decidable.not_not.mp (of_decide_eq_false c3))
      refine e_ld (pc' := 12) i156_11 rfl rfl ?_
      refine e_get (w := .ref 414) (pc' := 15) i156_12 rfl (x_isC (by decide) hn sh397) (x_fvR (by decide +kernel) (hL 397 18 414 lk397_18)) ?_
      refine e_cn (pc' := 18) i156_15 rfl ?_
      refine e_ld (pc' := 19) i156_18 rfl rfl ?_
      refine e_ib (z := 144 * a) (pc' := 20) i156_19 rfl rfl ?_
      refine e_ld (pc' := 21) i156_20 rfl rfl ?_
      refine e_ib (z := (144 * a) + b) (pc' := 22) i156_21 rfl rfl ?_
      obtain ⟨g5, hP⟩ := hP
      refine e_al (n := ((144 * a) + b).toNatClampNeg) (w := .int (gI h 414 (((144 * a) + b).toNatClampNeg))) (pc' := 23) i156_22 rfl (x_alX (a := 20) (by decide) hn sh414 (by decide) g5) rfl rfl ?_
      obtain ⟨hR10, hP⟩ := hP
      refine e_reg (pc' := 56) (ls' := [some (.ref 397), some (.int a), some (.int b)]) (st' := [.int (if (gI h 414 (((144 * a) + b).toNatClampNeg)) ≤ 0 then (0) else (gI h 400 ((gI h 407 b.toNatClampNeg).toNatClampNeg)))]) (fun kj6 => ?_) ?_
      · replace hP := hR10
        refine e_if (pc' := 26) i156_23 rfl (fun c7 => ?_) (fun c7 => ?_)
        · replace hP := hP.1 (of_decide_eq_true c7)
          refine e_cn (pc' := 41) i156_40 rfl ?_
          refine e_go i156_41 ?_
          exact (by simp only [if_pos (show (gI h 414 (((144 * a) + b).toNatClampNeg)) ≤ 0 from (of_decide_eq_true c7))] at kj6 ⊢; exact kj6)
        · replace hP := hP.2 (of_decide_eq_false c7)
          refine e_ld (pc' := 27) i156_26 rfl rfl ?_
          refine e_get (w := .ref 400) (pc' := 30) i156_27 rfl (x_isC (by decide) hn sh397) (x_fvR (by decide +kernel) (hL 397 3 400 lk397_3)) ?_
          refine e_ld (pc' := 31) i156_30 rfl rfl ?_
          refine e_get (w := .ref 407) (pc' := 34) i156_31 rfl (x_isC (by decide) hn sh397) (x_fvR (by decide +kernel) (hL 397 10 407 lk397_10)) ?_
          refine e_ld (pc' := 35) i156_34 rfl rfl ?_
          obtain ⟨g8, hP⟩ := hP
          refine e_al (n := b.toNatClampNeg) (w := .int (gI h 407 b.toNatClampNeg)) (pc' := 36) i156_35 rfl (x_alX (a := 20) (by decide) hn sh407 (by decide) g8) rfl rfl ?_
          obtain ⟨g9, hP⟩ := hP
          refine e_al (n := (gI h 407 b.toNatClampNeg).toNatClampNeg) (w := .int (gI h 400 ((gI h 407 b.toNatClampNeg).toNatClampNeg))) (pc' := 37) i156_36 rfl (x_alX (a := 20) (by decide) hn sh400 (by decide) g9) rfl rfl ?_
          refine e_go i156_37 ?_
          exact (by simp only [if_neg (show ¬ ((gI h 414 (((144 * a) + b).toNatClampNeg)) ≤ 0) from (of_decide_eq_false c7))] at kj6 ⊢; exact kj6)
      exact (by simp only [if_pos (show (gI h 405 b.toNatClampNeg) = 6 from (Decidable.not_not.mp (of_decide_eq_false c3)))] at kj2 ⊢; exact kj2)
  refine e_rt i156_56 rfl ?_
  exact ⟨by unfold F156; skip; rfl, rfl⟩
/-- FloorTurnModel.hasRoom(III)Z -/
def F158 (a : Int32) (b : Int32) (c : Int32) (h : Hp) : Bool := if (gI h 402 ((2 * b).toNatClampNeg)) = c then (if (2 * (gI h 403 ((2 * b).toNatClampNeg))) ≤ (gI h 417 ((2 * a).toNatClampNeg)) then (false) else (true)) else (if (gI h 402 (((2 * b) + 1).toNatClampNeg)) = c then (if (2 * (gI h 403 (((2 * b) + 1).toNatClampNeg))) ≤ (gI h 417 (((2 * a) + 1).toNatClampNeg)) then (false) else (true)) else (false))
def P158 (a : Int32) (b : Int32) (c : Int32) (h : Hp) : Prop := (vp_in (2 * b) 16) ∧ (((((gI h 402 ((2 * b).toNatClampNeg)) = c) → ((vp_in (2 * a) 864) ∧ ((vp_in (2 * b) 16) ∧ (True)))) ∧ (¬ ((gI h 402 ((2 * b).toNatClampNeg)) = c) → ((vp_in ((2 * b) + 1) 16) ∧ (((((gI h 402 (((2 * b) + 1).toNatClampNeg)) = c) → ((vp_in ((2 * a) + 1) 864) ∧ ((vp_in ((2 * b) + 1) 16) ∧ (True)))) ∧ (¬ ((gI h 402 (((2 * b) + 1).toNatClampNeg)) = c) → (True))) ∧ (True))))) ∧ (True))
set_option maxHeartbeats 8000000 in
set_option maxRecDepth 100000 in
theorem m158 {L : Nat} {xs : Nat → Int32} {h : Hp} {a : Int32} {b : Int32} {c : Int32} (hn : 444 ≤ h.1) (hL : LK h) (hP : P158 a b c h) : Sp L xs 158 [.ref 397, .int a, .int b, .int c] h (some (.int (b2i (F158 a b c h)))) h := by
  unfold P158 at hP
  refine sp_of (ls := [some (.ref 397), some (.int a), some (.int b), some (.int c)]) rfl ?_
  refine e_ld (pc' := 1) i158_0 rfl rfl ?_
  refine e_get (w := .ref 402) (pc' := 4) i158_1 rfl (x_isC (by decide) hn sh397) (x_fvR (by decide +kernel) (hL 397 5 402 lk397_5)) ?_
  refine e_cn (pc' := 5) i158_4 rfl ?_
  refine e_ld (pc' := 6) i158_5 rfl rfl ?_
  refine e_ib (z := 2 * b) (pc' := 7) i158_6 rfl rfl ?_
  obtain ⟨g1, hP⟩ := hP
  refine e_al (n := (2 * b).toNatClampNeg) (w := .int (gI h 402 ((2 * b).toNatClampNeg))) (pc' := 8) i158_7 rfl (x_alX (a := 20) (by decide) hn sh402 (by decide) g1) rfl rfl ?_
  refine e_ld (pc' := 9) i158_8 rfl rfl ?_
  obtain ⟨hR16, hP⟩ := hP
  refine e_reg (pc' := 85) (ls' := [some (.ref 397), some (.int a), some (.int b), some (.int c)]) (st' := [.int (b2i (if (gI h 402 ((2 * b).toNatClampNeg)) = c then (if (2 * (gI h 403 ((2 * b).toNatClampNeg))) ≤ (gI h 417 ((2 * a).toNatClampNeg)) then (false) else (true)) else (if (gI h 402 (((2 * b) + 1).toNatClampNeg)) = c then (if (2 * (gI h 403 (((2 * b) + 1).toNatClampNeg))) ≤ (gI h 417 (((2 * a) + 1).toNatClampNeg)) then (false) else (true)) else (false))))]) (fun kj2 => ?_) ?_
  · replace hP := hR16
    refine e_ic (pc' := 12) i158_9 rfl (fun c3 => ?_) (fun c3 => ?_)
    · replace hP := hP.2 (of_decide_eq_true c3)
      refine e_ld (pc' := 42) i158_41 rfl rfl ?_
      refine e_get (w := .ref 402) (pc' := 45) i158_42 rfl (x_isC (by decide) hn sh397) (x_fvR (by decide +kernel) (hL 397 5 402 lk397_5)) ?_
      refine e_cn (pc' := 46) i158_45 rfl ?_
      refine e_ld (pc' := 47) i158_46 rfl rfl ?_
      refine e_ib (z := 2 * b) (pc' := 48) i158_47 rfl rfl ?_
      refine e_cn (pc' := 49) i158_48 rfl ?_
      refine e_ib (z := (2 * b) + 1) (pc' := 50) i158_49 rfl rfl ?_
      obtain ⟨g4, hP⟩ := hP
      refine e_al (n := ((2 * b) + 1).toNatClampNeg) (w := .int (gI h 402 (((2 * b) + 1).toNatClampNeg))) (pc' := 51) i158_50 rfl (x_alX (a := 20) (by decide) hn sh402 (by decide) g4) rfl rfl ?_
      refine e_ld (pc' := 52) i158_51 rfl rfl ?_
      obtain ⟨hR11, hP⟩ := hP
      refine e_reg (pc' := 85) (ls' := [some (.ref 397), some (.int a), some (.int b), some (.int c)]) (st' := [.int (b2i (if (gI h 402 (((2 * b) + 1).toNatClampNeg)) = c then (if (2 * (gI h 403 (((2 * b) + 1).toNatClampNeg))) ≤ (gI h 417 (((2 * a) + 1).toNatClampNeg)) then (false) else (true)) else (false)))]) (fun kj5 => ?_) ?_
      · replace hP := hR11
        refine e_ic (pc' := 55) i158_52 rfl (fun c6 => ?_) (fun c6 => ?_)
        · replace hP := hP.2 (of_decide_eq_true c6)
          refine e_cn (pc' := 85) i158_84 rfl ?_
          exact (by simp only [if_neg (show ¬ ((gI h 402 (((2 * b) + 1).toNatClampNeg)) = c) from (of_decide_eq_true c6))] at kj5 ⊢; exact kj5)
        · replace hP := hP.1 (Decidable.not_not.mp (of_decide_eq_false c6))
          refine e_ld (pc' := 56) i158_55 rfl rfl ?_
          refine e_get (w := .ref 417) (pc' := 59) i158_56 rfl (x_isC (by decide) hn sh397) (x_fvR (by decide +kernel) (hL 397 21 417 lk397_21)) ?_
          refine e_cn (pc' := 60) i158_59 rfl ?_
          refine e_ld (pc' := 61) i158_60 rfl rfl ?_
          refine e_ib (z := 2 * a) (pc' := 62) i158_61 rfl rfl ?_
          refine e_cn (pc' := 63) i158_62 rfl ?_
          refine e_ib (z := (2 * a) + 1) (pc' := 64) i158_63 rfl rfl ?_
          obtain ⟨g7, hP⟩ := hP
          refine e_al (n := ((2 * a) + 1).toNatClampNeg) (w := .int (gI h 417 (((2 * a) + 1).toNatClampNeg))) (pc' := 65) i158_64 rfl (x_alX (a := 20) (by decide) hn sh417 (by decide) g7) rfl rfl ?_
          refine e_cn (pc' := 66) i158_65 rfl ?_
          refine e_ld (pc' := 67) i158_66 rfl rfl ?_
          refine e_get (w := .ref 403) (pc' := 70) i158_67 rfl (x_isC (by decide) hn sh397) (x_fvR (by decide +kernel) (hL 397 6 403 lk397_6)) ?_
          refine e_cn (pc' := 71) i158_70 rfl ?_
          refine e_ld (pc' := 72) i158_71 rfl rfl ?_
          refine e_ib (z := 2 * b) (pc' := 73) i158_72 rfl rfl ?_
          refine e_cn (pc' := 74) i158_73 rfl ?_
          refine e_ib (z := (2 * b) + 1) (pc' := 75) i158_74 rfl rfl ?_
          obtain ⟨g8, hP⟩ := hP
          refine e_al (n := ((2 * b) + 1).toNatClampNeg) (w := .int (gI h 403 (((2 * b) + 1).toNatClampNeg))) (pc' := 76) i158_75 rfl (x_alX (a := 20) (by decide) hn sh403 (by decide) g8) rfl rfl ?_
          refine e_ib (z := 2 * (gI h 403 (((2 * b) + 1).toNatClampNeg))) (pc' := 77) i158_76 rfl rfl ?_
          refine e_reg (pc' := 85) (ls' := [some (.ref 397), some (.int a), some (.int b), some (.int c)]) (st' := [.int (b2i (if (2 * (gI h 403 (((2 * b) + 1).toNatClampNeg))) ≤ (gI h 417 (((2 * a) + 1).toNatClampNeg)) then (false) else (true)))]) (fun kj9 => ?_) ?_
          · skip
            refine e_ic (pc' := 80) i158_77 rfl (fun c10 => ?_) (fun c10 => ?_)
            · skip
              refine e_cn (pc' := 85) i158_84 rfl ?_
              exact (by simp only [if_pos (show (2 * (gI h 403 (((2 * b) + 1).toNatClampNeg))) ≤ (gI h 417 (((2 * a) + 1).toNatClampNeg)) from (of_decide_eq_true c10))] at kj9 ⊢; exact kj9)
            · skip
              refine e_cn (pc' := 81) i158_80 rfl ?_
              refine e_go i158_81 ?_
              exact (by simp only [if_neg (show ¬ ((2 * (gI h 403 (((2 * b) + 1).toNatClampNeg))) ≤ (gI h 417 (((2 * a) + 1).toNatClampNeg))) from (of_decide_eq_false c10))] at kj9 ⊢; exact kj9)
          exact (by simp only [if_pos (show (gI h 402 (((2 * b) + 1).toNatClampNeg)) = c from (Decidable.not_not.mp (of_decide_eq_false c6)))] at kj5 ⊢; exact kj5)
      exact (by simp only [if_neg (show ¬ ((gI h 402 ((2 * b).toNatClampNeg)) = c) from (of_decide_eq_true c3))] at kj2 ⊢; exact kj2)
    · replace hP := hP.1 (Decidable.not_not.mp (of_decide_eq_false c3))
      refine e_ld (pc' := 13) i158_12 rfl rfl ?_
      refine e_get (w := .ref 417) (pc' := 16) i158_13 rfl (x_isC (by decide) hn sh397) (x_fvR (by decide +kernel) (hL 397 21 417 lk397_21)) ?_
      refine e_cn (pc' := 17) i158_16 rfl ?_
      refine e_ld (pc' := 18) i158_17 rfl rfl ?_
      refine e_ib (z := 2 * a) (pc' := 19) i158_18 rfl rfl ?_
      obtain ⟨g12, hP⟩ := hP
      refine e_al (n := (2 * a).toNatClampNeg) (w := .int (gI h 417 ((2 * a).toNatClampNeg))) (pc' := 20) i158_19 rfl (x_alX (a := 20) (by decide) hn sh417 (by decide) g12) rfl rfl ?_
      refine e_cn (pc' := 21) i158_20 rfl ?_
      refine e_ld (pc' := 22) i158_21 rfl rfl ?_
      refine e_get (w := .ref 403) (pc' := 25) i158_22 rfl (x_isC (by decide) hn sh397) (x_fvR (by decide +kernel) (hL 397 6 403 lk397_6)) ?_
      refine e_cn (pc' := 26) i158_25 rfl ?_
      refine e_ld (pc' := 27) i158_26 rfl rfl ?_
      refine e_ib (z := 2 * b) (pc' := 28) i158_27 rfl rfl ?_
      obtain ⟨g13, hP⟩ := hP
      refine e_al (n := (2 * b).toNatClampNeg) (w := .int (gI h 403 ((2 * b).toNatClampNeg))) (pc' := 29) i158_28 rfl (x_alX (a := 20) (by decide) hn sh403 (by decide) g13) rfl rfl ?_
      refine e_ib (z := 2 * (gI h 403 ((2 * b).toNatClampNeg))) (pc' := 30) i158_29 rfl rfl ?_
      refine e_reg (pc' := 85) (ls' := [some (.ref 397), some (.int a), some (.int b), some (.int c)]) (st' := [.int (b2i (if (2 * (gI h 403 ((2 * b).toNatClampNeg))) ≤ (gI h 417 ((2 * a).toNatClampNeg)) then (false) else (true)))]) (fun kj14 => ?_) ?_
      · skip
        refine e_ic (pc' := 33) i158_30 rfl (fun c15 => ?_) (fun c15 => ?_)
        · skip
          refine e_cn (pc' := 38) i158_37 rfl ?_
          refine e_go i158_38 ?_
          exact (by simp only [if_pos (show (2 * (gI h 403 ((2 * b).toNatClampNeg))) ≤ (gI h 417 ((2 * a).toNatClampNeg)) from (of_decide_eq_true c15))] at kj14 ⊢; exact kj14)
        · skip
          refine e_cn (pc' := 34) i158_33 rfl ?_
          refine e_go i158_34 ?_
          exact (by simp only [if_neg (show ¬ ((2 * (gI h 403 ((2 * b).toNatClampNeg))) ≤ (gI h 417 ((2 * a).toNatClampNeg))) from (of_decide_eq_false c15))] at kj14 ⊢; exact kj14)
      exact (by simp only [if_pos (show (gI h 402 ((2 * b).toNatClampNeg)) = c from (Decidable.not_not.mp (of_decide_eq_false c3)))] at kj2 ⊢; exact kj2)
  refine e_rt (r := some (.int (b2i (if (gI h 402 ((2 * b).toNatClampNeg)) = c then (if (2 * (gI h 403 ((2 * b).toNatClampNeg))) ≤ (gI h 417 ((2 * a).toNatClampNeg)) then (false) else (true)) else (if (gI h 402 (((2 * b) + 1).toNatClampNeg)) = c then (if (2 * (gI h 403 (((2 * b) + 1).toNatClampNeg))) ≤ (gI h 417 (((2 * a) + 1).toNatClampNeg)) then (false) else (true)) else (false)))))) i158_85 (by simp only [x_rt, show MR 158 = some .boolean by decide +kernel, b2i_01, cond_true]) ?_
  exact ⟨by unfold F158; skip; rfl, rfl⟩
/-- FloorTurnModel.takes(IIIII)Z -/
def F157 (a : Int32) (b : Int32) (c : Int32) (d : Int32) (e : Int32) (h : Hp) : Bool := if (gI h 405 b.toNatClampNeg) = 1 then (if (gI h 412 (((144 * a) + b).toNatClampNeg)) = 0 then (if (gI h 406 b.toNatClampNeg) = d then (false) else (true)) else (false)) else (if (gI h 405 b.toNatClampNeg) = 2 then (if (gI h 412 (((144 * a) + b).toNatClampNeg)) = 0 then (if (gI h 406 b.toNatClampNeg) = d then (false) else (true)) else (false)) else (if (gI h 405 b.toNatClampNeg) = 3 then (if (gI h 412 (((144 * a) + b).toNatClampNeg)) = 0 then (if (gI h 405 e.toNatClampNeg) = 2 then (if (gI h 406 e.toNatClampNeg) = (gI h 406 b.toNatClampNeg) then (true) else (false)) else (false)) else (false)) else (if (gI h 405 b.toNatClampNeg) = 4 then (if (gI h 412 (((144 * a) + b).toNatClampNeg)) = 0 then (if (((gI h 406 b.toNatClampNeg) >>> ((d : Int32) &&& 31)) &&& 1) = 0 then (true) else (false)) else (false)) else (if (gI h 405 b.toNatClampNeg) = 5 then (false) else (if (gI h 405 b.toNatClampNeg) = 6 then (if (gI h 406 b.toNatClampNeg) = d then (false) else (if (F158 ((144 * a) + b) (gI h 407 b.toNatClampNeg) c h) = true then (true) else (false))) else (if (gI h 405 b.toNatClampNeg) = 7 then (true) else (false)))))))
def P157 (a : Int32) (b : Int32) (c : Int32) (d : Int32) (e : Int32) (h : Hp) : Prop := (vp_in b 144) ∧ ((((gI h 405 b.toNatClampNeg) = 1) → ((vp_in ((144 * a) + b) 432) ∧ (((((gI h 412 (((144 * a) + b).toNatClampNeg)) = 0) → ((vp_in b 144) ∧ (True))) ∧ (¬ ((gI h 412 (((144 * a) + b).toNatClampNeg)) = 0) → (True))) ∧ (True)))) ∧ (¬ ((gI h 405 b.toNatClampNeg) = 1) → ((((gI h 405 b.toNatClampNeg) = 2) → ((vp_in ((144 * a) + b) 432) ∧ (((((gI h 412 (((144 * a) + b).toNatClampNeg)) = 0) → ((vp_in b 144) ∧ (True))) ∧ (¬ ((gI h 412 (((144 * a) + b).toNatClampNeg)) = 0) → (True))) ∧ (True)))) ∧ (¬ ((gI h 405 b.toNatClampNeg) = 2) → ((((gI h 405 b.toNatClampNeg) = 3) → ((vp_in ((144 * a) + b) 432) ∧ (((((gI h 412 (((144 * a) + b).toNatClampNeg)) = 0) → ((vp_in e 144) ∧ (((((gI h 405 e.toNatClampNeg) = 2) → ((vp_in e 144) ∧ ((vp_in b 144) ∧ (True)))) ∧ (¬ ((gI h 405 e.toNatClampNeg) = 2) → (True))) ∧ (True)))) ∧ (¬ ((gI h 412 (((144 * a) + b).toNatClampNeg)) = 0) → (True))) ∧ (True)))) ∧ (¬ ((gI h 405 b.toNatClampNeg) = 3) → ((((gI h 405 b.toNatClampNeg) = 4) → ((vp_in ((144 * a) + b) 432) ∧ (((((gI h 412 (((144 * a) + b).toNatClampNeg)) = 0) → ((vp_in b 144) ∧ (True))) ∧ (¬ ((gI h 412 (((144 * a) + b).toNatClampNeg)) = 0) → (True))) ∧ (True)))) ∧ (¬ ((gI h 405 b.toNatClampNeg) = 4) → ((((gI h 405 b.toNatClampNeg) = 5) → (True)) ∧ (¬ ((gI h 405 b.toNatClampNeg) = 5) → ((((gI h 405 b.toNatClampNeg) = 6) → ((vp_in b 144) ∧ (((((gI h 406 b.toNatClampNeg) = d) → (True)) ∧ (¬ ((gI h 406 b.toNatClampNeg) = d) → ((vp_in b 144) ∧ ((P158 ((144 * a) + b) (gI h 407 b.toNatClampNeg) c h) ∧ (True))))) ∧ (True)))) ∧ (¬ ((gI h 405 b.toNatClampNeg) = 6) → ((((gI h 405 b.toNatClampNeg) = 7) → (True)) ∧ (¬ ((gI h 405 b.toNatClampNeg) = 7) → (True)))))))))))))))
set_option maxHeartbeats 8000000 in
set_option maxRecDepth 100000 in
theorem m157 {L : Nat} {xs : Nat → Int32} {h : Hp} {a : Int32} {b : Int32} {c : Int32} {d : Int32} {e : Int32} (hn : 444 ≤ h.1) (hL : LK h) (hP : P157 a b c d e h) : Sp L xs 157 [.ref 397, .int a, .int b, .int c, .int d, .int e] h (some (.int (b2i (F157 a b c d e h)))) h := by
  unfold P157 at hP
  refine sp_of (ls := [some (.ref 397), some (.int a), some (.int b), some (.int c), some (.int d), some (.int e), none]) rfl ?_
  refine e_cn (pc' := 3) i157_0 rfl ?_
  refine e_ld (pc' := 4) i157_3 rfl rfl ?_
  refine e_ib (z := 144 * a) (pc' := 5) i157_4 rfl rfl ?_
  refine e_ld (pc' := 6) i157_5 rfl rfl ?_
  refine e_ib (z := (144 * a) + b) (pc' := 7) i157_6 rfl rfl ?_
  refine e_st (ls' := [some (.ref 397), some (.int a), some (.int b), some (.int c), some (.int d), some (.int e), some (.int ((144 * a) + b))]) (pc' := 9) i157_7 rfl rfl rfl ?_
  refine e_ld (pc' := 10) i157_9 rfl rfl ?_
  refine e_get (w := .ref 405) (pc' := 13) i157_10 rfl (x_isC (by decide) hn sh397) (x_fvR (by decide +kernel) (hL 397 8 405 lk397_8)) ?_
  refine e_ld (pc' := 14) i157_13 rfl rfl ?_
  obtain ⟨g1, hP⟩ := hP
  refine e_al (n := b.toNatClampNeg) (w := .int (gI h 405 b.toNatClampNeg)) (pc' := 15) i157_14 rfl (x_alX (a := 20) (by decide) hn sh405 (by decide) g1) rfl rfl ?_
  by_cases c2 : (gI h 405 b.toNatClampNeg) = 1
  · replace hP := hP.1 c2
    refine e_tab (pc' := 56) i157_15 (by rw [c2]; rfl) ?_
    refine e_ld (pc' := 57) i157_56 rfl rfl ?_
    refine e_get (w := .ref 412) (pc' := 60) i157_57 rfl (x_isC (by decide) hn sh397) (x_fvR (by decide +kernel) (hL 397 16 412 lk397_16)) ?_
    refine e_ld (pc' := 62) i157_60 rfl rfl ?_
    obtain ⟨g3, hP⟩ := hP
    refine e_al (n := ((144 * a) + b).toNatClampNeg) (w := .int (gI h 412 (((144 * a) + b).toNatClampNeg))) (pc' := 63) i157_62 rfl (x_alX (a := 20) (by decide) hn sh412 (by decide) g3) rfl rfl ?_
    obtain ⟨hR9, hP⟩ := hP
    refine e_reg (pc' := 82) (ls' := [some (.ref 397), some (.int a), some (.int b), some (.int c), some (.int d), some (.int e), some (.int ((144 * a) + b))]) (st' := [.int (b2i (if (gI h 412 (((144 * a) + b).toNatClampNeg)) = 0 then (if (gI h 406 b.toNatClampNeg) = d then (false) else (true)) else (false)))]) (fun kj4 => ?_) ?_
    · replace hP := hR9
      refine e_if (pc' := 66) i157_63 rfl (fun c5 => ?_) (fun c5 => ?_)
      · replace hP := hP.2 (of_decide_eq_true c5)
        refine e_cn (pc' := 82) i157_81 rfl ?_
        exact (by simp only [if_neg (show ¬ ((gI h 412 (((144 * a) + b).toNatClampNeg)) = 0) from (of_decide_eq_true c5))] at kj4 ⊢; exact kj4)
      · replace hP := hP.1 (Decidable.not_not.mp (of_decide_eq_false c5))
        refine e_ld (pc' := 67) i157_66 rfl rfl ?_
        refine e_get (w := .ref 406) (pc' := 70) i157_67 rfl (x_isC (by decide) hn sh397) (x_fvR (by decide +kernel) (hL 397 9 406 lk397_9)) ?_
        refine e_ld (pc' := 71) i157_70 rfl rfl ?_
        obtain ⟨g6, hP⟩ := hP
        refine e_al (n := b.toNatClampNeg) (w := .int (gI h 406 b.toNatClampNeg)) (pc' := 72) i157_71 rfl (x_alX (a := 20) (by decide) hn sh406 (by decide) g6) rfl rfl ?_
        refine e_ld (pc' := 74) i157_72 rfl rfl ?_
        refine e_reg (pc' := 82) (ls' := [some (.ref 397), some (.int a), some (.int b), some (.int c), some (.int d), some (.int e), some (.int ((144 * a) + b))]) (st' := [.int (b2i (if (gI h 406 b.toNatClampNeg) = d then (false) else (true)))]) (fun kj7 => ?_) ?_
        · skip
          refine e_ic (pc' := 77) i157_74 rfl (fun c8 => ?_) (fun c8 => ?_)
          · skip
            refine e_cn (pc' := 82) i157_81 rfl ?_
            exact (by simp only [if_pos (show (gI h 406 b.toNatClampNeg) = d from (of_decide_eq_true c8))] at kj7 ⊢; exact kj7)
          · skip
            refine e_cn (pc' := 78) i157_77 rfl ?_
            refine e_go i157_78 ?_
            exact (by simp only [if_neg (show ¬ ((gI h 406 b.toNatClampNeg) = d) from (of_decide_eq_false c8))] at kj7 ⊢; exact kj7)
        exact (by simp only [if_pos (show (gI h 412 (((144 * a) + b).toNatClampNeg)) = 0 from (Decidable.not_not.mp (of_decide_eq_false c5)))] at kj4 ⊢; exact kj4)
    refine e_rt (r := some (.int (b2i (if (gI h 412 (((144 * a) + b).toNatClampNeg)) = 0 then (if (gI h 406 b.toNatClampNeg) = d then (false) else (true)) else (false))))) i157_82 (by simp only [x_rt, show MR 157 = some .boolean by decide +kernel, b2i_01, cond_true]) ?_
    exact ⟨by unfold F157; simp only [if_pos c2], rfl⟩
  · replace hP := hP.2 c2
    by_cases c10 : (gI h 405 b.toNatClampNeg) = 2
    · replace hP := hP.1 c10
      refine e_tab (pc' := 56) i157_15 (by rw [c10]; rfl) ?_
      refine e_ld (pc' := 57) i157_56 rfl rfl ?_
      refine e_get (w := .ref 412) (pc' := 60) i157_57 rfl (x_isC (by decide) hn sh397) (x_fvR (by decide +kernel) (hL 397 16 412 lk397_16)) ?_
      refine e_ld (pc' := 62) i157_60 rfl rfl ?_
      obtain ⟨g11, hP⟩ := hP
      refine e_al (n := ((144 * a) + b).toNatClampNeg) (w := .int (gI h 412 (((144 * a) + b).toNatClampNeg))) (pc' := 63) i157_62 rfl (x_alX (a := 20) (by decide) hn sh412 (by decide) g11) rfl rfl ?_
      obtain ⟨hR17, hP⟩ := hP
      refine e_reg (pc' := 82) (ls' := [some (.ref 397), some (.int a), some (.int b), some (.int c), some (.int d), some (.int e), some (.int ((144 * a) + b))]) (st' := [.int (b2i (if (gI h 412 (((144 * a) + b).toNatClampNeg)) = 0 then (if (gI h 406 b.toNatClampNeg) = d then (false) else (true)) else (false)))]) (fun kj12 => ?_) ?_
      · replace hP := hR17
        refine e_if (pc' := 66) i157_63 rfl (fun c13 => ?_) (fun c13 => ?_)
        · replace hP := hP.2 (of_decide_eq_true c13)
          refine e_cn (pc' := 82) i157_81 rfl ?_
          exact (by simp only [if_neg (show ¬ ((gI h 412 (((144 * a) + b).toNatClampNeg)) = 0) from (of_decide_eq_true c13))] at kj12 ⊢; exact kj12)
        · replace hP := hP.1 (Decidable.not_not.mp (of_decide_eq_false c13))
          refine e_ld (pc' := 67) i157_66 rfl rfl ?_
          refine e_get (w := .ref 406) (pc' := 70) i157_67 rfl (x_isC (by decide) hn sh397) (x_fvR (by decide +kernel) (hL 397 9 406 lk397_9)) ?_
          refine e_ld (pc' := 71) i157_70 rfl rfl ?_
          obtain ⟨g14, hP⟩ := hP
          refine e_al (n := b.toNatClampNeg) (w := .int (gI h 406 b.toNatClampNeg)) (pc' := 72) i157_71 rfl (x_alX (a := 20) (by decide) hn sh406 (by decide) g14) rfl rfl ?_
          refine e_ld (pc' := 74) i157_72 rfl rfl ?_
          refine e_reg (pc' := 82) (ls' := [some (.ref 397), some (.int a), some (.int b), some (.int c), some (.int d), some (.int e), some (.int ((144 * a) + b))]) (st' := [.int (b2i (if (gI h 406 b.toNatClampNeg) = d then (false) else (true)))]) (fun kj15 => ?_) ?_
          · skip
            refine e_ic (pc' := 77) i157_74 rfl (fun c16 => ?_) (fun c16 => ?_)
            · skip
              refine e_cn (pc' := 82) i157_81 rfl ?_
              exact (by simp only [if_pos (show (gI h 406 b.toNatClampNeg) = d from (of_decide_eq_true c16))] at kj15 ⊢; exact kj15)
            · skip
              refine e_cn (pc' := 78) i157_77 rfl ?_
              refine e_go i157_78 ?_
              exact (by simp only [if_neg (show ¬ ((gI h 406 b.toNatClampNeg) = d) from (of_decide_eq_false c16))] at kj15 ⊢; exact kj15)
          exact (by simp only [if_pos (show (gI h 412 (((144 * a) + b).toNatClampNeg)) = 0 from (Decidable.not_not.mp (of_decide_eq_false c13)))] at kj12 ⊢; exact kj12)
      refine e_rt (r := some (.int (b2i (if (gI h 412 (((144 * a) + b).toNatClampNeg)) = 0 then (if (gI h 406 b.toNatClampNeg) = d then (false) else (true)) else (false))))) i157_82 (by simp only [x_rt, show MR 157 = some .boolean by decide +kernel, b2i_01, cond_true]) ?_
      exact ⟨by unfold F157; simp only [if_neg c2, if_pos c10], rfl⟩
    · replace hP := hP.2 c10
      by_cases c18 : (gI h 405 b.toNatClampNeg) = 3
      · replace hP := hP.1 c18
        refine e_tab (pc' := 83) i157_15 (by rw [c18]; rfl) ?_
        refine e_ld (pc' := 84) i157_83 rfl rfl ?_
        refine e_get (w := .ref 412) (pc' := 87) i157_84 rfl (x_isC (by decide) hn sh397) (x_fvR (by decide +kernel) (hL 397 16 412 lk397_16)) ?_
        refine e_ld (pc' := 89) i157_87 rfl rfl ?_
        obtain ⟨g19, hP⟩ := hP
        refine e_al (n := ((144 * a) + b).toNatClampNeg) (w := .int (gI h 412 (((144 * a) + b).toNatClampNeg))) (pc' := 90) i157_89 rfl (x_alX (a := 20) (by decide) hn sh412 (by decide) g19) rfl rfl ?_
        obtain ⟨hR30, hP⟩ := hP
        refine e_reg (pc' := 125) (ls' := [some (.ref 397), some (.int a), some (.int b), some (.int c), some (.int d), some (.int e), some (.int ((144 * a) + b))]) (st' := [.int (b2i (if (gI h 412 (((144 * a) + b).toNatClampNeg)) = 0 then (if (gI h 405 e.toNatClampNeg) = 2 then (if (gI h 406 e.toNatClampNeg) = (gI h 406 b.toNatClampNeg) then (true) else (false)) else (false)) else (false)))]) (fun kj20 => ?_) ?_
        · replace hP := hR30
          refine e_if (pc' := 93) i157_90 rfl (fun c21 => ?_) (fun c21 => ?_)
          · replace hP := hP.2 (of_decide_eq_true c21)
            refine e_cn (pc' := 125) i157_124 rfl ?_
            exact (by simp only [if_neg (show ¬ ((gI h 412 (((144 * a) + b).toNatClampNeg)) = 0) from (of_decide_eq_true c21))] at kj20 ⊢; exact kj20)
          · replace hP := hP.1 (Decidable.not_not.mp (of_decide_eq_false c21))
            refine e_ld (pc' := 94) i157_93 rfl rfl ?_
            refine e_get (w := .ref 405) (pc' := 97) i157_94 rfl (x_isC (by decide) hn sh397) (x_fvR (by decide +kernel) (hL 397 8 405 lk397_8)) ?_
            refine e_ld (pc' := 99) i157_97 rfl rfl ?_
            obtain ⟨g22, hP⟩ := hP
            refine e_al (n := e.toNatClampNeg) (w := .int (gI h 405 e.toNatClampNeg)) (pc' := 100) i157_99 rfl (x_alX (a := 20) (by decide) hn sh405 (by decide) g22) rfl rfl ?_
            refine e_cn (pc' := 101) i157_100 rfl ?_
            obtain ⟨hR29, hP⟩ := hP
            refine e_reg (pc' := 125) (ls' := [some (.ref 397), some (.int a), some (.int b), some (.int c), some (.int d), some (.int e), some (.int ((144 * a) + b))]) (st' := [.int (b2i (if (gI h 405 e.toNatClampNeg) = 2 then (if (gI h 406 e.toNatClampNeg) = (gI h 406 b.toNatClampNeg) then (true) else (false)) else (false)))]) (fun kj23 => ?_) ?_
            · replace hP := hR29
              refine e_ic (pc' := 104) i157_101 rfl (fun c24 => ?_) (fun c24 => ?_)
              · replace hP := hP.2 (of_decide_eq_true c24)
                refine e_cn (pc' := 125) i157_124 rfl ?_
                exact (by simp only [if_neg (show ¬ ((gI h 405 e.toNatClampNeg) = 2) from (of_decide_eq_true c24))] at kj23 ⊢; exact kj23)
              · replace hP := hP.1 (Decidable.not_not.mp (of_decide_eq_false c24))
                refine e_ld (pc' := 105) i157_104 rfl rfl ?_
                refine e_get (w := .ref 406) (pc' := 108) i157_105 rfl (x_isC (by decide) hn sh397) (x_fvR (by decide +kernel) (hL 397 9 406 lk397_9)) ?_
                refine e_ld (pc' := 110) i157_108 rfl rfl ?_
                obtain ⟨g25, hP⟩ := hP
                refine e_al (n := e.toNatClampNeg) (w := .int (gI h 406 e.toNatClampNeg)) (pc' := 111) i157_110 rfl (x_alX (a := 20) (by decide) hn sh406 (by decide) g25) rfl rfl ?_
                refine e_ld (pc' := 112) i157_111 rfl rfl ?_
                refine e_get (w := .ref 406) (pc' := 115) i157_112 rfl (x_isC (by decide) hn sh397) (x_fvR (by decide +kernel) (hL 397 9 406 lk397_9)) ?_
                refine e_ld (pc' := 116) i157_115 rfl rfl ?_
                obtain ⟨g26, hP⟩ := hP
                refine e_al (n := b.toNatClampNeg) (w := .int (gI h 406 b.toNatClampNeg)) (pc' := 117) i157_116 rfl (x_alX (a := 20) (by decide) hn sh406 (by decide) g26) rfl rfl ?_
                refine e_reg (pc' := 125) (ls' := [some (.ref 397), some (.int a), some (.int b), some (.int c), some (.int d), some (.int e), some (.int ((144 * a) + b))]) (st' := [.int (b2i (if (gI h 406 e.toNatClampNeg) = (gI h 406 b.toNatClampNeg) then (true) else (false)))]) (fun kj27 => ?_) ?_
                · skip
                  refine e_ic (pc' := 120) i157_117 rfl (fun c28 => ?_) (fun c28 => ?_)
                  · skip
                    refine e_cn (pc' := 125) i157_124 rfl ?_
                    exact (by simp only [if_neg (show ¬ ((gI h 406 e.toNatClampNeg) = (gI h 406 b.toNatClampNeg)) from (of_decide_eq_true c28))] at kj27 ⊢; exact kj27)
                  · skip
                    refine e_cn (pc' := 121) i157_120 rfl ?_
                    refine e_go i157_121 ?_
                    exact (by simp only [if_pos (show (gI h 406 e.toNatClampNeg) = (gI h 406 b.toNatClampNeg) from (Decidable.not_not.mp (of_decide_eq_false c28)))] at kj27 ⊢; exact kj27)
                exact (by simp only [if_pos (show (gI h 405 e.toNatClampNeg) = 2 from (Decidable.not_not.mp (of_decide_eq_false c24)))] at kj23 ⊢; exact kj23)
            exact (by simp only [if_pos (show (gI h 412 (((144 * a) + b).toNatClampNeg)) = 0 from (Decidable.not_not.mp (of_decide_eq_false c21)))] at kj20 ⊢; exact kj20)
        refine e_rt (r := some (.int (b2i (if (gI h 412 (((144 * a) + b).toNatClampNeg)) = 0 then (if (gI h 405 e.toNatClampNeg) = 2 then (if (gI h 406 e.toNatClampNeg) = (gI h 406 b.toNatClampNeg) then (true) else (false)) else (false)) else (false))))) i157_125 (by simp only [x_rt, show MR 157 = some .boolean by decide +kernel, b2i_01, cond_true]) ?_
        exact ⟨by unfold F157; simp only [if_neg c2, if_neg c10, if_pos c18], rfl⟩
      · replace hP := hP.2 c18
        by_cases c31 : (gI h 405 b.toNatClampNeg) = 4
        · replace hP := hP.1 c31
          refine e_tab (pc' := 126) i157_15 (by rw [c31]; rfl) ?_
          refine e_ld (pc' := 127) i157_126 rfl rfl ?_
          refine e_get (w := .ref 412) (pc' := 130) i157_127 rfl (x_isC (by decide) hn sh397) (x_fvR (by decide +kernel) (hL 397 16 412 lk397_16)) ?_
          refine e_ld (pc' := 132) i157_130 rfl rfl ?_
          obtain ⟨g32, hP⟩ := hP
          refine e_al (n := ((144 * a) + b).toNatClampNeg) (w := .int (gI h 412 (((144 * a) + b).toNatClampNeg))) (pc' := 133) i157_132 rfl (x_alX (a := 20) (by decide) hn sh412 (by decide) g32) rfl rfl ?_
          obtain ⟨hR38, hP⟩ := hP
          refine e_reg (pc' := 155) (ls' := [some (.ref 397), some (.int a), some (.int b), some (.int c), some (.int d), some (.int e), some (.int ((144 * a) + b))]) (st' := [.int (b2i (if (gI h 412 (((144 * a) + b).toNatClampNeg)) = 0 then (if (((gI h 406 b.toNatClampNeg) >>> ((d : Int32) &&& 31)) &&& 1) = 0 then (true) else (false)) else (false)))]) (fun kj33 => ?_) ?_
          · replace hP := hR38
            refine e_if (pc' := 136) i157_133 rfl (fun c34 => ?_) (fun c34 => ?_)
            · replace hP := hP.2 (of_decide_eq_true c34)
              refine e_cn (pc' := 155) i157_154 rfl ?_
              exact (by simp only [if_neg (show ¬ ((gI h 412 (((144 * a) + b).toNatClampNeg)) = 0) from (of_decide_eq_true c34))] at kj33 ⊢; exact kj33)
            · replace hP := hP.1 (Decidable.not_not.mp (of_decide_eq_false c34))
              refine e_ld (pc' := 137) i157_136 rfl rfl ?_
              refine e_get (w := .ref 406) (pc' := 140) i157_137 rfl (x_isC (by decide) hn sh397) (x_fvR (by decide +kernel) (hL 397 9 406 lk397_9)) ?_
              refine e_ld (pc' := 141) i157_140 rfl rfl ?_
              obtain ⟨g35, hP⟩ := hP
              refine e_al (n := b.toNatClampNeg) (w := .int (gI h 406 b.toNatClampNeg)) (pc' := 142) i157_141 rfl (x_alX (a := 20) (by decide) hn sh406 (by decide) g35) rfl rfl ?_
              refine e_ld (pc' := 144) i157_142 rfl rfl ?_
              refine e_ib (z := (gI h 406 b.toNatClampNeg) >>> ((d : Int32) &&& 31)) (pc' := 145) i157_144 rfl rfl ?_
              refine e_cn (pc' := 146) i157_145 rfl ?_
              refine e_ib (z := ((gI h 406 b.toNatClampNeg) >>> ((d : Int32) &&& 31)) &&& 1) (pc' := 147) i157_146 rfl rfl ?_
              refine e_reg (pc' := 155) (ls' := [some (.ref 397), some (.int a), some (.int b), some (.int c), some (.int d), some (.int e), some (.int ((144 * a) + b))]) (st' := [.int (b2i (if (((gI h 406 b.toNatClampNeg) >>> ((d : Int32) &&& 31)) &&& 1) = 0 then (true) else (false)))]) (fun kj36 => ?_) ?_
              · skip
                refine e_if (pc' := 150) i157_147 rfl (fun c37 => ?_) (fun c37 => ?_)
                · skip
                  refine e_cn (pc' := 155) i157_154 rfl ?_
                  exact (by simp only [if_neg (show ¬ ((((gI h 406 b.toNatClampNeg) >>> ((d : Int32) &&& 31)) &&& 1) = 0) from (of_decide_eq_true c37))] at kj36 ⊢; exact kj36)
                · skip
                  refine e_cn (pc' := 151) i157_150 rfl ?_
                  refine e_go i157_151 ?_
                  exact (by simp only [if_pos (show (((gI h 406 b.toNatClampNeg) >>> ((d : Int32) &&& 31)) &&& 1) = 0 from (Decidable.not_not.mp (of_decide_eq_false c37)))] at kj36 ⊢; exact kj36)
              exact (by simp only [if_pos (show (gI h 412 (((144 * a) + b).toNatClampNeg)) = 0 from (Decidable.not_not.mp (of_decide_eq_false c34)))] at kj33 ⊢; exact kj33)
          refine e_rt (r := some (.int (b2i (if (gI h 412 (((144 * a) + b).toNatClampNeg)) = 0 then (if (((gI h 406 b.toNatClampNeg) >>> ((d : Int32) &&& 31)) &&& 1) = 0 then (true) else (false)) else (false))))) i157_155 (by simp only [x_rt, show MR 157 = some .boolean by decide +kernel, b2i_01, cond_true]) ?_
          exact ⟨by unfold F157; simp only [if_neg c2, if_neg c10, if_neg c18, if_pos c31], rfl⟩
        · replace hP := hP.2 c31
          by_cases c39 : (gI h 405 b.toNatClampNeg) = 5
          · replace hP := hP.1 c39
            refine e_tab (pc' := 191) i157_15 (by rw [c39]; rfl) ?_
            refine e_cn (pc' := 192) i157_191 rfl ?_
            refine e_rt i157_192 rfl ?_
            exact ⟨by unfold F157; simp only [if_neg c2, if_neg c10, if_neg c18, if_neg c31, if_pos c39]; rfl, rfl⟩
          · replace hP := hP.2 c39
            by_cases c40 : (gI h 405 b.toNatClampNeg) = 6
            · replace hP := hP.1 c40
              refine e_tab (pc' := 156) i157_15 (by rw [c40]; rfl) ?_
              refine e_ld (pc' := 157) i157_156 rfl rfl ?_
              refine e_get (w := .ref 406) (pc' := 160) i157_157 rfl (x_isC (by decide) hn sh397) (x_fvR (by decide +kernel) (hL 397 9 406 lk397_9)) ?_
              refine e_ld (pc' := 161) i157_160 rfl rfl ?_
              obtain ⟨g41, hP⟩ := hP
              refine e_al (n := b.toNatClampNeg) (w := .int (gI h 406 b.toNatClampNeg)) (pc' := 162) i157_161 rfl (x_alX (a := 20) (by decide) hn sh406 (by decide) g41) rfl rfl ?_
              refine e_ld (pc' := 164) i157_162 rfl rfl ?_
              obtain ⟨hR48, hP⟩ := hP
              refine e_reg (pc' := 188) (ls' := [some (.ref 397), some (.int a), some (.int b), some (.int c), some (.int d), some (.int e), some (.int ((144 * a) + b))]) (st' := [.int (b2i (if (gI h 406 b.toNatClampNeg) = d then (false) else (if (F158 ((144 * a) + b) (gI h 407 b.toNatClampNeg) c h) = true then (true) else (false))))]) (fun kj42 => ?_) ?_
              · replace hP := hR48
                refine e_ic (pc' := 167) i157_164 rfl (fun c43 => ?_) (fun c43 => ?_)
                · replace hP := hP.1 (of_decide_eq_true c43)
                  refine e_cn (pc' := 188) i157_187 rfl ?_
                  exact (by simp only [if_pos (show (gI h 406 b.toNatClampNeg) = d from (of_decide_eq_true c43))] at kj42 ⊢; exact kj42)
                · replace hP := hP.2 (of_decide_eq_false c43)
                  refine e_ld (pc' := 168) i157_167 rfl rfl ?_
                  refine e_ld (pc' := 170) i157_168 rfl rfl ?_
                  refine e_ld (pc' := 171) i157_170 rfl rfl ?_
                  refine e_get (w := .ref 407) (pc' := 174) i157_171 rfl (x_isC (by decide) hn sh397) (x_fvR (by decide +kernel) (hL 397 10 407 lk397_10)) ?_
                  refine e_ld (pc' := 175) i157_174 rfl rfl ?_
                  obtain ⟨g44, hP⟩ := hP
                  refine e_al (n := b.toNatClampNeg) (w := .int (gI h 407 b.toNatClampNeg)) (pc' := 176) i157_175 rfl (x_alX (a := 20) (by decide) hn sh407 (by decide) g44) rfl rfl ?_
                  refine e_ld (pc' := 177) i157_176 rfl rfl ?_
                  obtain ⟨g45, hP⟩ := hP
                  refine e_cI (w := .int (b2i (F158 ((144 * a) + b) (gI h 407 b.toNatClampNeg) c h))) (As := [.ref 397, .int ((144 * a) + b), .int (gI h 407 b.toNatClampNeg), .int c]) (rest := []) (pc' := 180) i157_177 rfl rfl rfl rfl (by show (Nat.beq (x_kd 158) 0 && x_is 397 _ (MC 158) 0) = true; rw [show x_kd 158 = 0 by decide +kernel, show MC 158 = 11 by decide +kernel, (x_isC (by decide) hn sh397)]; rfl) (m158 hn hL g45) ?_
                  refine e_reg (pc' := 188) (ls' := [some (.ref 397), some (.int a), some (.int b), some (.int c), some (.int d), some (.int e), some (.int ((144 * a) + b))]) (st' := [.int (b2i (if (F158 ((144 * a) + b) (gI h 407 b.toNatClampNeg) c h) = true then (true) else (false)))]) (fun kj46 => ?_) ?_
                  · skip
                    refine e_b0 (pc' := 183) i157_180 rfl (fun c47 => ?_) (fun c47 => ?_)
                    · skip
                      refine e_cn (pc' := 188) i157_187 rfl ?_
                      exact (by simp only [if_neg (show ¬ (F158 ((144 * a) + b) (gI h 407 b.toNatClampNeg) c h) = true by rw [c47]; decide)] at kj46 ⊢; exact kj46)
                    · skip
                      refine e_cn (pc' := 184) i157_183 rfl ?_
                      refine e_go i157_184 ?_
                      exact (by simp only [if_pos c47] at kj46 ⊢; exact kj46)
                  exact (by simp only [if_neg (show ¬ ((gI h 406 b.toNatClampNeg) = d) from (of_decide_eq_false c43))] at kj42 ⊢; exact kj42)
              refine e_rt (r := some (.int (b2i (if (gI h 406 b.toNatClampNeg) = d then (false) else (if (F158 ((144 * a) + b) (gI h 407 b.toNatClampNeg) c h) = true then (true) else (false)))))) i157_188 (by simp only [x_rt, show MR 157 = some .boolean by decide +kernel, b2i_01, cond_true]) ?_
              exact ⟨by unfold F157; simp only [if_neg c2, if_neg c10, if_neg c18, if_neg c31, if_neg c39, if_pos c40], rfl⟩
            · replace hP := hP.2 c40
              by_cases c49 : (gI h 405 b.toNatClampNeg) = 7
              · replace hP := hP.1 c49
                refine e_tab (pc' := 189) i157_15 (by rw [c49]; rfl) ?_
                refine e_cn (pc' := 190) i157_189 rfl ?_
                refine e_rt i157_190 rfl ?_
                exact ⟨by unfold F157; simp only [if_neg c2, if_neg c10, if_neg c18, if_neg c31, if_neg c39, if_neg c40, if_pos c49]; rfl, rfl⟩
              · replace hP := hP.2 c49
                replace hP := hP
                refine e_tab (pc' := 191) i157_15 (x_tgt_out (by decide) (fun k (hk : k < 7) => by rcases (show k = 0 ∨ k = 1 ∨ k = 2 ∨ k = 3 ∨ k = 4 ∨ k = 5 ∨ k = 6 by omega) with rfl | rfl | rfl | rfl | rfl | rfl | rfl <;> assumption)) ?_
                refine e_cn (pc' := 192) i157_191 rfl ?_
                refine e_rt i157_192 rfl ?_
                exact ⟨by unfold F157; simp only [if_neg c2, if_neg c10, if_neg c18, if_neg c31, if_neg c39, if_neg c40, if_neg c49]; rfl, rfl⟩
