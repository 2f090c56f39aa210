/-! The reference's methods without loops, as functions. -/
/-- FloorTurnModel.offers(IIIII)V -/
def G159 (a : Int32) (b : Int32) (c : Int32) (d : Int32) (e : Int32) (h : Hp) : Hp := if (gI h 427 c.toNatClampNeg) = (-1) then (sI (sI (sI h 427 c.toNatClampNeg b) 428 c.toNatClampNeg e) 429 c.toNatClampNeg d) else (if (gI h 428 c.toNatClampNeg) ≤ e then (h) else (sI (sI (sI h 427 c.toNatClampNeg b) 428 c.toNatClampNeg e) 429 c.toNatClampNeg d))
theorem n_G159 (a : Int32) (b : Int32) (c : Int32) (d : Int32) (e : Int32) (h : Hp) : (G159 a b c d e h).1 = h.1 := by
  unfold G159
  (repeat' split) <;> first | (simp only [n_sI, n_aI, n_bI, n_sL, n_sR]; done) | rfl
theorem r_G159 (a : Int32) (b : Int32) (c : Int32) (d : Int32) (e : Int32) (h : Hp) : gR (G159 a b c d e h) = gR h := by
  unfold G159
  (repeat' split) <;> first | (simp only [gR_sI, gR_aI, gR_bI, gR_sL]; done) | rfl
def P159 (a : Int32) (b : Int32) (c : Int32) (d : Int32) (e : Int32) (h : Hp) : Prop := (vp_in c 144) ∧ ((((gI h 427 c.toNatClampNeg) = (-1)) → ((vp_in c 144) ∧ ((vp_in c 144) ∧ ((vp_in c 144) ∧ (True))))) ∧ (¬ ((gI h 427 c.toNatClampNeg) = (-1)) → ((vp_in c 144) ∧ ((((gI h 428 c.toNatClampNeg) ≤ e) → (True)) ∧ (¬ ((gI h 428 c.toNatClampNeg) ≤ e) → ((vp_in c 144) ∧ ((vp_in c 144) ∧ ((vp_in c 144) ∧ (True)))))))))
set_option maxHeartbeats 8000000 in
set_option maxRecDepth 100000 in
theorem m159 {L : Nat} {xs : Nat → Int32} {h : Hp} {a : Int32} {b : Int32} {c : Int32} {d : Int32} {e : Int32} (hn : 444 ≤ h.1) (hL : LK h) (hP : P159 a b c d e h) : Sp L xs 159 [.ref 397, .int a, .int b, .int c, .int d, .int e] h none (G159 a b c d e h) := by
  unfold P159 at hP
  refine sp_of (ls := [some (.ref 397), some (.int a), some (.int b), some (.int c), some (.int d), some (.int e)]) rfl ?_
  refine e_ld (pc' := 1) i159_0 rfl rfl ?_
  refine e_get (w := .ref 427) (pc' := 4) i159_1 rfl (x_isC (by decide) hn sh397) (x_fvR (by decide +kernel) (hL 397 31 427 lk397_31)) ?_
  refine e_ld (pc' := 5) i159_4 rfl rfl ?_
  obtain ⟨g1, hP⟩ := hP
  refine e_al (n := c.toNatClampNeg) (w := .int (gI h 427 c.toNatClampNeg)) (pc' := 6) i159_5 rfl (x_alX (a := 20) (by decide) hn sh427 (by decide) g1) rfl rfl ?_
  refine e_cn (pc' := 7) i159_6 rfl ?_
  refine e_ic (pc' := 10) i159_7 rfl (fun c2 => ?_) (fun c2 => ?_)
  · replace hP := hP.1 (of_decide_eq_true c2)
    refine e_ld (pc' := 22) i159_21 rfl rfl ?_
    refine e_get (w := .ref 427) (pc' := 25) i159_22 rfl (x_isC (by decide) hn sh397) (x_fvR (by decide +kernel) (hL 397 31 427 lk397_31)) ?_
    refine e_ld (pc' := 26) i159_25 rfl rfl ?_
    refine e_ld (pc' := 27) i159_26 rfl rfl ?_
    obtain ⟨g3, hP⟩ := hP
    refine e_as (n := c.toNatClampNeg) (h' := sI h 427 c.toNatClampNeg b) (pc' := 28) i159_27 rfl (x_alX (a := 20) (by decide) hn sh427 (by decide) g3) rfl (by rw [show (SH 427).1 = 20 by rw [sh427]]; rfl) ?_
    have hn4 : 444 ≤ (sI h 427 c.toNatClampNeg b).1 := le_sI hn
    have hL4 : LK (sI h 427 c.toNatClampNeg b) := LK_sI hL
    refine e_ld (pc' := 29) i159_28 rfl rfl ?_
    refine e_get (w := .ref 428) (pc' := 32) i159_29 rfl (x_isC (by decide) hn4 sh397) (x_fvR (by decide +kernel) (hL4 397 32 428 lk397_32)) ?_
    refine e_ld (pc' := 33) i159_32 rfl rfl ?_
    refine e_ld (pc' := 35) i159_33 rfl rfl ?_
    obtain ⟨g5, hP⟩ := hP
    refine e_as (n := c.toNatClampNeg) (h' := sI (sI h 427 c.toNatClampNeg b) 428 c.toNatClampNeg e) (pc' := 36) i159_35 rfl (x_alX (a := 20) (by decide) hn4 sh428 (by decide) g5) rfl (by rw [show (SH 428).1 = 20 by rw [sh428]]; rfl) ?_
    have hn6 : 444 ≤ (sI (sI h 427 c.toNatClampNeg b) 428 c.toNatClampNeg e).1 := le_sI hn4
    have hL6 : LK (sI (sI h 427 c.toNatClampNeg b) 428 c.toNatClampNeg e) := LK_sI hL4
    refine e_ld (pc' := 37) i159_36 rfl rfl ?_
    refine e_get (w := .ref 429) (pc' := 40) i159_37 rfl (x_isC (by decide) hn6 sh397) (x_fvR (by decide +kernel) (hL6 397 33 429 lk397_33)) ?_
    refine e_ld (pc' := 41) i159_40 rfl rfl ?_
    refine e_ld (pc' := 43) i159_41 rfl rfl ?_
    obtain ⟨g7, hP⟩ := hP
    refine e_as (n := c.toNatClampNeg) (h' := sI (sI (sI h 427 c.toNatClampNeg b) 428 c.toNatClampNeg e) 429 c.toNatClampNeg d) (pc' := 44) i159_43 rfl (x_alX (a := 20) (by decide) hn6 sh429 (by decide) g7) rfl (by rw [show (SH 429).1 = 20 by rw [sh429]]; rfl) ?_
    have hn8 : 444 ≤ (sI (sI (sI h 427 c.toNatClampNeg b) 428 c.toNatClampNeg e) 429 c.toNatClampNeg d).1 := le_sI hn6
    have hL8 : LK (sI (sI (sI h 427 c.toNatClampNeg b) 428 c.toNatClampNeg e) 429 c.toNatClampNeg d) := LK_sI hL6
    refine e_rt i159_44 rfl ?_
    exact ⟨rfl, by unfold G159; simp only [if_pos (show (gI h 427 c.toNatClampNeg) = (-1) from (of_decide_eq_true c2))]⟩
  · replace hP := hP.2 (of_decide_eq_false c2)
    refine e_ld (pc' := 12) i159_10 rfl rfl ?_
    refine e_ld (pc' := 13) i159_12 rfl rfl ?_
    refine e_get (w := .ref 428) (pc' := 16) i159_13 rfl (x_isC (by decide) hn sh397) (x_fvR (by decide +kernel) (hL 397 32 428 lk397_32)) ?_
    refine e_ld (pc' := 17) i159_16 rfl rfl ?_
    obtain ⟨g9, hP⟩ := hP
    refine e_al (n := c.toNatClampNeg) (w := .int (gI h 428 c.toNatClampNeg)) (pc' := 18) i159_17 rfl (x_alX (a := 20) (by decide) hn sh428 (by decide) g9) rfl rfl ?_
    refine e_ic (pc' := 21) i159_18 rfl (fun c10 => ?_) (fun c10 => ?_)
    · replace hP := hP.1 (of_decide_eq_true c10)
      refine e_rt i159_44 rfl ?_
      exact ⟨rfl, by unfold G159; simp only [if_neg (show ¬ ((gI h 427 c.toNatClampNeg) = (-1)) from (of_decide_eq_false c2)), if_pos (show (gI h 428 c.toNatClampNeg) ≤ e from (of_decide_eq_true c10))]⟩
    · replace hP := hP.2 (of_decide_eq_false c10)
      refine e_ld (pc' := 22) i159_21 rfl rfl ?_
      refine e_get (w := .ref 427) (pc' := 25) i159_22 rfl (x_isC (by decide) hn sh397) (x_fvR (by decide +kernel) (hL 397 31 427 lk397_31)) ?_
      refine e_ld (pc' := 26) i159_25 rfl rfl ?_
      refine e_ld (pc' := 27) i159_26 rfl rfl ?_
      obtain ⟨g11, hP⟩ := hP
      refine e_as (n := c.toNatClampNeg) (h' := sI h 427 c.toNatClampNeg b) (pc' := 28) i159_27 rfl (x_alX (a := 20) (by decide) hn sh427 (by decide) g11) rfl (by rw [show (SH 427).1 = 20 by rw [sh427]]; rfl) ?_
      have hn12 : 444 ≤ (sI h 427 c.toNatClampNeg b).1 := le_sI hn
      have hL12 : LK (sI h 427 c.toNatClampNeg b) := LK_sI hL
      refine e_ld (pc' := 29) i159_28 rfl rfl ?_
      refine e_get (w := .ref 428) (pc' := 32) i159_29 rfl (x_isC (by decide) hn12 sh397) (x_fvR (by decide +kernel) (hL12 397 32 428 lk397_32)) ?_
      refine e_ld (pc' := 33) i159_32 rfl rfl ?_
      refine e_ld (pc' := 35) i159_33 rfl rfl ?_
      obtain ⟨g13, hP⟩ := hP
      refine e_as (n := c.toNatClampNeg) (h' := sI (sI h 427 c.toNatClampNeg b) 428 c.toNatClampNeg e) (pc' := 36) i159_35 rfl (x_alX (a := 20) (by decide) hn12 sh428 (by decide) g13) rfl (by rw [show (SH 428).1 = 20 by rw [sh428]]; rfl) ?_
      have hn14 : 444 ≤ (sI (sI h 427 c.toNatClampNeg b) 428 c.toNatClampNeg e).1 := le_sI hn12
      have hL14 : LK (sI (sI h 427 c.toNatClampNeg b) 428 c.toNatClampNeg e) := LK_sI hL12
      refine e_ld (pc' := 37) i159_36 rfl rfl ?_
      refine e_get (w := .ref 429) (pc' := 40) i159_37 rfl (x_isC (by decide) hn14 sh397) (x_fvR (by decide +kernel) (hL14 397 33 429 lk397_33)) ?_
      refine e_ld (pc' := 41) i159_40 rfl rfl ?_
      refine e_ld (pc' := 43) i159_41 rfl rfl ?_
      obtain ⟨g15, hP⟩ := hP
      refine e_as (n := c.toNatClampNeg) (h' := sI (sI (sI h 427 c.toNatClampNeg b) 428 c.toNatClampNeg e) 429 c.toNatClampNeg d) (pc' := 44) i159_43 rfl (x_alX (a := 20) (by decide) hn14 sh429 (by decide) g15) rfl (by rw [show (SH 429).1 = 20 by rw [sh429]]; rfl) ?_
      have hn16 : 444 ≤ (sI (sI (sI h 427 c.toNatClampNeg b) 428 c.toNatClampNeg e) 429 c.toNatClampNeg d).1 := le_sI hn14
      have hL16 : LK (sI (sI (sI h 427 c.toNatClampNeg b) 428 c.toNatClampNeg e) 429 c.toNatClampNeg d) := LK_sI hL14
      refine e_rt i159_44 rfl ?_
      exact ⟨rfl, by unfold G159; simp only [if_neg (show ¬ ((gI h 427 c.toNatClampNeg) = (-1)) from (of_decide_eq_false c2)), if_neg (show ¬ ((gI h 428 c.toNatClampNeg) ≤ e) from (of_decide_eq_false c10))]⟩
/-- FloorTurnModel.gives(IIII)Z -/
def F161 (a : Int32) (b : Int32) (c : Int32) (d : Int32) (h : Hp) : Bool := if (F127 b c h) = (-1) then (false) else (if (F157 a (F127 b c h) d ((c + 2) - (c + 2) / 4 * 4) b h) = true then (true) else (false))
def G161 (a : Int32) (b : Int32) (c : Int32) (d : Int32) (h : Hp) : Hp := if (F127 b c h) = (-1) then (h) else (if (F157 a (F127 b c h) d ((c + 2) - (c + 2) / 4 * 4) b h) = true then (G159 a b (F127 b c h) ((c + 2) - (c + 2) / 4 * 4) (((((c + 2) - (c + 2) / 4 * 4) - (gI h 418 (((144 * a) + (F127 b c h)).toNatClampNeg))) + 7) - ((((c + 2) - (c + 2) / 4 * 4) - (gI h 418 (((144 * a) + (F127 b c h)).toNatClampNeg))) + 7) / 4 * 4) h) else (h))
theorem n_G161 (a : Int32) (b : Int32) (c : Int32) (d : Int32) (h : Hp) : (G161 a b c d h).1 = h.1 := by
  unfold G161
  (repeat' split) <;> first | (simp only [n_sI, n_aI, n_bI, n_sL, n_sR, n_G159]; done) | rfl
theorem r_G161 (a : Int32) (b : Int32) (c : Int32) (d : Int32) (h : Hp) : gR (G161 a b c d h) = gR h := by
  unfold G161
  (repeat' split) <;> first | (simp only [gR_sI, gR_aI, gR_bI, gR_sL, r_G159]; done) | rfl
def P161 (a : Int32) (b : Int32) (c : Int32) (d : Int32) (h : Hp) : Prop := (((F127 b c h) = (-1)) → (True)) ∧ (¬ ((F127 b c h) = (-1)) → ((P157 a (F127 b c h) d ((c + 2) - (c + 2) / 4 * 4) b h) ∧ ((((F157 a (F127 b c h) d ((c + 2) - (c + 2) / 4 * 4) b h) = true) → ((vp_in ((144 * a) + (F127 b c h)) 432) ∧ ((P159 a b (F127 b c h) ((c + 2) - (c + 2) / 4 * 4) (((((c + 2) - (c + 2) / 4 * 4) - (gI h 418 (((144 * a) + (F127 b c h)).toNatClampNeg))) + 7) - ((((c + 2) - (c + 2) / 4 * 4) - (gI h 418 (((144 * a) + (F127 b c h)).toNatClampNeg))) + 7) / 4 * 4) h) ∧ (True)))) ∧ (¬ ((F157 a (F127 b c h) d ((c + 2) - (c + 2) / 4 * 4) b h) = true) → (True)))))
set_option maxHeartbeats 8000000 in
set_option maxRecDepth 100000 in
theorem m161 {L : Nat} {xs : Nat → Int32} {h : Hp} {a : Int32} {b : Int32} {c : Int32} {d : Int32} (hn : 444 ≤ h.1) (hL : LK h) (hP : P161 a b c d h) : Sp L xs 161 [.ref 397, .int a, .int b, .int c, .int d] h (some (.int (b2i (F161 a b c d h)))) (G161 a b c d h) := by
  unfold P161 at hP
  refine sp_of (ls := [some (.ref 397), some (.int a), some (.int b), some (.int c), some (.int d), none, none]) rfl ?_
  refine e_ld (pc' := 1) i161_0 rfl rfl ?_
  refine e_ld (pc' := 2) i161_1 rfl rfl ?_
  refine e_cI (w := .int (F127 b c h)) (As := [.int b, .int c]) (rest := []) (pc' := 5) i161_2 rfl rfl rfl rfl rfl m127 ?_
  refine e_st (ls' := [some (.ref 397), some (.int a), some (.int b), some (.int c), some (.int d), some (.int (F127 b c h)), none]) (pc' := 7) i161_5 rfl rfl rfl ?_
  refine e_ld (pc' := 8) i161_7 rfl rfl ?_
  refine e_cn (pc' := 9) i161_8 rfl ?_
  refine e_ib (z := c + 2) (pc' := 10) i161_9 rfl rfl ?_
  refine e_cn (pc' := 11) i161_10 rfl ?_
  refine e_ib (z := (c + 2) - (c + 2) / 4 * 4) (pc' := 12) i161_11 rfl (x_ib_rem (by decide)) ?_
  refine e_st (ls' := [some (.ref 397), some (.int a), some (.int b), some (.int c), some (.int d), some (.int (F127 b c h)), some (.int ((c + 2) - (c + 2) / 4 * 4))]) (pc' := 14) i161_12 rfl rfl rfl ?_
  refine e_ld (pc' := 16) i161_14 rfl rfl ?_
  refine e_cn (pc' := 17) i161_16 rfl ?_
  refine e_ic (pc' := 20) i161_17 rfl (fun c1 => ?_) (fun c1 => ?_)
  · replace hP := hP.1 (of_decide_eq_true c1)
    refine e_cn (pc' := 36) i161_35 rfl ?_
    refine e_rt i161_36 rfl ?_
    exact ⟨by unfold F161; simp only [if_pos (show (F127 b c h) = (-1) from (of_decide_eq_true c1))]; rfl, by unfold G161; simp only [if_pos (show (F127 b c h) = (-1) from (of_decide_eq_true c1))]⟩
  · replace hP := hP.2 (of_decide_eq_false c1)
    refine e_ld (pc' := 21) i161_20 rfl rfl ?_
    refine e_ld (pc' := 22) i161_21 rfl rfl ?_
    refine e_ld (pc' := 24) i161_22 rfl rfl ?_
    refine e_ld (pc' := 26) i161_24 rfl rfl ?_
    refine e_ld (pc' := 28) i161_26 rfl rfl ?_
    refine e_ld (pc' := 29) i161_28 rfl rfl ?_
    obtain ⟨g2, hP⟩ := hP
    refine e_cI (w := .int (b2i (F157 a (F127 b c h) d ((c + 2) - (c + 2) / 4 * 4) b h))) (As := [.ref 397, .int a, .int (F127 b c h), .int d, .int ((c + 2) - (c + 2) / 4 * 4), .int b]) (rest := []) (pc' := 32) i161_29 rfl rfl rfl rfl (by show (Nat.beq (x_kd 157) 0 && x_is 397 _ (MC 157) 0) = true; rw [show x_kd 157 = 0 by decide +kernel, show MC 157 = 11 by decide +kernel, (x_isC (by decide) hn sh397)]; rfl) (m157 hn hL g2) ?_
    refine e_b1 (pc' := 35) i161_32 rfl (fun c3 => ?_) (fun c3 => ?_)
    · replace hP := hP.1 c3
      refine e_ld (pc' := 38) i161_37 rfl rfl ?_
      refine e_ld (pc' := 39) i161_38 rfl rfl ?_
      refine e_ld (pc' := 40) i161_39 rfl rfl ?_
      refine e_ld (pc' := 42) i161_40 rfl rfl ?_
      refine e_ld (pc' := 44) i161_42 rfl rfl ?_
      refine e_ld (pc' := 46) i161_44 rfl rfl ?_
      refine e_ld (pc' := 47) i161_46 rfl rfl ?_
      refine e_get (w := .ref 418) (pc' := 50) i161_47 rfl (x_isC (by decide) hn sh397) (x_fvR (by decide +kernel) (hL 397 22 418 lk397_22)) ?_
      refine e_cn (pc' := 53) i161_50 rfl ?_
      refine e_ld (pc' := 54) i161_53 rfl rfl ?_
      refine e_ib (z := 144 * a) (pc' := 55) i161_54 rfl rfl ?_
      refine e_ld (pc' := 57) i161_55 rfl rfl ?_
      refine e_ib (z := (144 * a) + (F127 b c h)) (pc' := 58) i161_57 rfl rfl ?_
      obtain ⟨g4, hP⟩ := hP
      refine e_al (n := ((144 * a) + (F127 b c h)).toNatClampNeg) (w := .int (gI h 418 (((144 * a) + (F127 b c h)).toNatClampNeg))) (pc' := 59) i161_58 rfl (x_alX (a := 20) (by decide) hn sh418 (by decide) g4) rfl rfl ?_
      refine e_ib (z := ((c + 2) - (c + 2) / 4 * 4) - (gI h 418 (((144 * a) + (F127 b c h)).toNatClampNeg))) (pc' := 60) i161_59 rfl rfl ?_
      refine e_cn (pc' := 62) i161_60 rfl ?_
      refine e_ib (z := (((c + 2) - (c + 2) / 4 * 4) - (gI h 418 (((144 * a) + (F127 b c h)).toNatClampNeg))) + 7) (pc' := 63) i161_62 rfl rfl ?_
      refine e_cn (pc' := 64) i161_63 rfl ?_
      refine e_ib (z := ((((c + 2) - (c + 2) / 4 * 4) - (gI h 418 (((144 * a) + (F127 b c h)).toNatClampNeg))) + 7) - ((((c + 2) - (c + 2) / 4 * 4) - (gI h 418 (((144 * a) + (F127 b c h)).toNatClampNeg))) + 7) / 4 * 4) (pc' := 65) i161_64 rfl (x_ib_rem (by decide)) ?_
      obtain ⟨g5, hP⟩ := hP
      refine e_cV (As := [.ref 397, .int a, .int b, .int (F127 b c h), .int ((c + 2) - (c + 2) / 4 * 4), .int (((((c + 2) - (c + 2) / 4 * 4) - (gI h 418 (((144 * a) + (F127 b c h)).toNatClampNeg))) + 7) - ((((c + 2) - (c + 2) / 4 * 4) - (gI h 418 (((144 * a) + (F127 b c h)).toNatClampNeg))) + 7) / 4 * 4)]) (rest := []) (pc' := 68) i161_65 rfl rfl rfl rfl (by show (Nat.beq (x_kd 159) 0 && x_is 397 _ (MC 159) 0) = true; rw [show x_kd 159 = 0 by decide +kernel, show MC 159 = 11 by decide +kernel, (x_isC (by decide) hn sh397)]; rfl) (m159 hn hL g5) ?_
      have hn6 : 444 ≤ (G159 a b (F127 b c h) ((c + 2) - (c + 2) / 4 * 4) (((((c + 2) - (c + 2) / 4 * 4) - (gI h 418 (((144 * a) + (F127 b c h)).toNatClampNeg))) + 7) - ((((c + 2) - (c + 2) / 4 * 4) - (gI h 418 (((144 * a) + (F127 b c h)).toNatClampNeg))) + 7) / 4 * 4) h).1 := by rw [n_G159]; exact hn
      have hL6 : LK (G159 a b (F127 b c h) ((c + 2) - (c + 2) / 4 * 4) (((((c + 2) - (c + 2) / 4 * 4) - (gI h 418 (((144 * a) + (F127 b c h)).toNatClampNeg))) + 7) - ((((c + 2) - (c + 2) / 4 * 4) - (gI h 418 (((144 * a) + (F127 b c h)).toNatClampNeg))) + 7) / 4 * 4) h) := by unfold LK; rw [r_G159]; exact hL
      refine e_cn (pc' := 69) i161_68 rfl ?_
      refine e_rt i161_69 rfl ?_
      exact ⟨by unfold F161; simp only [if_neg (show ¬ ((F127 b c h) = (-1)) from (of_decide_eq_false c1)), if_pos c3]; rfl, by unfold G161; simp only [if_neg (show ¬ ((F127 b c h) = (-1)) from (of_decide_eq_false c1)), if_pos c3]⟩
    · replace hP := hP.2 (show ¬ (F157 a (F127 b c h) d ((c + 2) - (c + 2) / 4 * 4) b h) = true by rw [c3]; decide)
      refine e_cn (pc' := 36) i161_35 rfl ?_
      refine e_rt i161_36 rfl ?_
      exact ⟨by unfold F161; simp only [if_neg (show ¬ ((F127 b c h) = (-1)) from (of_decide_eq_false c1)), if_neg (show ¬ (F157 a (F127 b c h) d ((c + 2) - (c + 2) / 4 * 4) b h) = true by rw [c3]; decide)]; rfl, by unfold G161; simp only [if_neg (show ¬ ((F127 b c h) = (-1)) from (of_decide_eq_false c1)), if_neg (show ¬ (F157 a (F127 b c h) d ((c + 2) - (c + 2) / 4 * 4) b h) = true by rw [c3]; decide)]⟩
/-- FloorTurnModel.lets(III)V -/
def G163 (a : Int32) (b : Int32) (c : Int32) (h : Hp) : Hp := if (gI h 405 b.toNatClampNeg) = 6 then (sI (aI (sI (bI h 414 (((144 * a) + b).toNatClampNeg) 1) 419 (((144 * a) + b).toNatClampNeg) (if (gI h 405 b.toNatClampNeg) = 4 then (c) else (gI h 419 (((144 * a) + b).toNatClampNeg)))) 432 b.toNatClampNeg 1) 397 36 1) else (sI (aI (sI (sI h 412 (((144 * a) + b).toNatClampNeg) 0) 419 (((144 * a) + b).toNatClampNeg) (if (gI h 405 b.toNatClampNeg) = 4 then (c) else (gI h 419 (((144 * a) + b).toNatClampNeg)))) 432 b.toNatClampNeg 1) 397 36 1)
theorem n_G163 (a : Int32) (b : Int32) (c : Int32) (h : Hp) : (G163 a b c h).1 = h.1 := by
  unfold G163
  (repeat' split) <;> first | (simp only [n_sI, n_aI, n_bI, n_sL, n_sR]; done) | rfl
theorem r_G163 (a : Int32) (b : Int32) (c : Int32) (h : Hp) : gR (G163 a b c h) = gR h := by
  unfold G163
  (repeat' split) <;> first | (simp only [gR_sI, gR_aI, gR_bI, gR_sL]; done) | rfl
def P163 (a : Int32) (b : Int32) (c : Int32) (h : Hp) : Prop := (vp_in b 144) ∧ ((((gI h 405 b.toNatClampNeg) = 6) → ((vp_in ((144 * a) + b) 432) ∧ ((vp_in ((144 * a) + b) 432) ∧ ((vp_in b 144) ∧ (((((gI h 405 b.toNatClampNeg) = 4) → (True)) ∧ (¬ ((gI h 405 b.toNatClampNeg) = 4) → ((vp_in ((144 * a) + b) 432) ∧ (True)))) ∧ ((vp_in ((144 * a) + b) 432) ∧ ((vp_in b 144) ∧ ((vp_in b 144) ∧ (True))))))))) ∧ (¬ ((gI h 405 b.toNatClampNeg) = 6) → ((vp_in ((144 * a) + b) 432) ∧ ((vp_in b 144) ∧ (((((gI h 405 b.toNatClampNeg) = 4) → (True)) ∧ (¬ ((gI h 405 b.toNatClampNeg) = 4) → ((vp_in ((144 * a) + b) 432) ∧ (True)))) ∧ ((vp_in ((144 * a) + b) 432) ∧ ((vp_in b 144) ∧ ((vp_in b 144) ∧ (True)))))))))
set_option maxHeartbeats 8000000 in
set_option maxRecDepth 100000 in
theorem m163 {L : Nat} {xs : Nat → Int32} {h : Hp} {a : Int32} {b : Int32} {c : Int32} (hn : 444 ≤ h.1) (hL : LK h) (hP : P163 a b c h) : Sp L xs 163 [.ref 397, .int a, .int b, .int c] h none (G163 a b c h) := by
  unfold P163 at hP
  refine sp_of (ls := [some (.ref 397), some (.int a), some (.int b), some (.int c), none]) rfl ?_
  refine e_cn (pc' := 3) i163_0 rfl ?_
  refine e_ld (pc' := 4) i163_3 rfl rfl ?_
  refine e_ib (z := 144 * a) (pc' := 5) i163_4 rfl rfl ?_
  refine e_ld (pc' := 6) i163_5 rfl rfl ?_
  refine e_ib (z := (144 * a) + b) (pc' := 7) i163_6 rfl rfl ?_
  refine e_st (ls' := [some (.ref 397), some (.int a), some (.int b), some (.int c), some (.int ((144 * a) + b))]) (pc' := 9) i163_7 rfl rfl rfl ?_
  refine e_ld (pc' := 10) i163_9 rfl rfl ?_
  refine e_get (w := .ref 405) (pc' := 13) i163_10 rfl (x_isC (by decide) hn sh397) (x_fvR (by decide +kernel) (hL 397 8 405 lk397_8)) ?_
  refine e_ld (pc' := 14) i163_13 rfl rfl ?_
  obtain ⟨g1, hP⟩ := hP
  refine e_al (n := b.toNatClampNeg) (w := .int (gI h 405 b.toNatClampNeg)) (pc' := 15) i163_14 rfl (x_alX (a := 20) (by decide) hn sh405 (by decide) g1) rfl rfl ?_
  refine e_cn (pc' := 17) i163_15 rfl ?_
  refine e_ic (pc' := 20) i163_17 rfl (fun c2 => ?_) (fun c2 => ?_)
  · replace hP := hP.2 (of_decide_eq_true c2)
    refine e_ld (pc' := 35) i163_34 rfl rfl ?_
    refine e_get (w := .ref 412) (pc' := 38) i163_35 rfl (x_isC (by decide) hn sh397) (x_fvR (by decide +kernel) (hL 397 16 412 lk397_16)) ?_
    refine e_ld (pc' := 40) i163_38 rfl rfl ?_
    refine e_cn (pc' := 41) i163_40 rfl ?_
    obtain ⟨g3, hP⟩ := hP
    refine e_as (n := ((144 * a) + b).toNatClampNeg) (h' := sI h 412 (((144 * a) + b).toNatClampNeg) 0) (pc' := 42) i163_41 rfl (x_alX (a := 20) (by decide) hn sh412 (by decide) g3) rfl (by rw [show (SH 412).1 = 20 by rw [sh412]]; rfl) ?_
    have hn4 : 444 ≤ (sI h 412 (((144 * a) + b).toNatClampNeg) 0).1 := le_sI hn
    have hL4 : LK (sI h 412 (((144 * a) + b).toNatClampNeg) 0) := LK_sI hL
    refine e_ld (pc' := 43) i163_42 rfl rfl ?_
    refine e_get (w := .ref 419) (pc' := 46) i163_43 rfl (x_isC (by decide) hn4 sh397) (x_fvR (by decide +kernel) (hL4 397 23 419 lk397_23)) ?_
    refine e_ld (pc' := 48) i163_46 rfl rfl ?_
    refine e_ld (pc' := 49) i163_48 rfl rfl ?_
    refine e_get (w := .ref 405) (pc' := 52) i163_49 rfl (x_isC (by decide) hn4 sh397) (x_fvR (by decide +kernel) (hL4 397 8 405 lk397_8)) ?_
    refine e_ld (pc' := 53) i163_52 rfl rfl ?_
    obtain ⟨g5, hP⟩ := hP
    refine e_al (n := b.toNatClampNeg) (w := .int (gI h 405 b.toNatClampNeg)) (pc' := 54) i163_53 rfl (x_alX (a := 20) (by decide) hn4 sh405 (by decide) g5) rfl (congrArg Value.int (gI_osI (by decide))) ?_
    refine e_cn (pc' := 55) i163_54 rfl ?_
    obtain ⟨hR9, hP⟩ := hP
    refine e_reg (pc' := 69) (ls' := [some (.ref 397), some (.int a), some (.int b), some (.int c), some (.int ((144 * a) + b))]) (st' := [.int (if (gI h 405 b.toNatClampNeg) = 4 then (c) else (gI h 419 (((144 * a) + b).toNatClampNeg))), .int ((144 * a) + b), .ref 419]) (fun kj6 => ?_) ?_
    · replace hP := hR9
      refine e_ic (pc' := 58) i163_55 rfl (fun c7 => ?_) (fun c7 => ?_)
      · replace hP := hP.2 (of_decide_eq_true c7)
        refine e_ld (pc' := 63) i163_62 rfl rfl ?_
        refine e_get (w := .ref 419) (pc' := 66) i163_63 rfl (x_isC (by decide) hn4 sh397) (x_fvR (by decide +kernel) (hL4 397 23 419 lk397_23)) ?_
        refine e_ld (pc' := 68) i163_66 rfl rfl ?_
        obtain ⟨g8, hP⟩ := hP
        refine e_al (n := ((144 * a) + b).toNatClampNeg) (w := .int (gI h 419 (((144 * a) + b).toNatClampNeg))) (pc' := 69) i163_68 rfl (x_alX (a := 20) (by decide) hn4 sh419 (by decide) g8) rfl (congrArg Value.int (gI_osI (by decide))) ?_
        exact (by simp only [if_neg (show ¬ ((gI h 405 b.toNatClampNeg) = 4) from (of_decide_eq_true c7))] at kj6 ⊢; exact kj6)
      · replace hP := hP.1 (Decidable.not_not.mp (of_decide_eq_false c7))
        refine e_ld (pc' := 59) i163_58 rfl rfl ?_
        refine e_go i163_59 ?_
        exact (by simp only [if_pos (show (gI h 405 b.toNatClampNeg) = 4 from (Decidable.not_not.mp (of_decide_eq_false c7)))] at kj6 ⊢; exact kj6)
    obtain ⟨g10, hP⟩ := hP
    refine e_as (n := ((144 * a) + b).toNatClampNeg) (h' := sI (sI h 412 (((144 * a) + b).toNatClampNeg) 0) 419 (((144 * a) + b).toNatClampNeg) (if (gI h 405 b.toNatClampNeg) = 4 then (c) else (gI h 419 (((144 * a) + b).toNatClampNeg)))) (pc' := 70) i163_69 rfl (x_alX (a := 20) (by decide) hn4 sh419 (by decide) g10) rfl (by rw [show (SH 419).1 = 20 by rw [sh419]]; rfl) ?_
    have hn11 : 444 ≤ (sI (sI h 412 (((144 * a) + b).toNatClampNeg) 0) 419 (((144 * a) + b).toNatClampNeg) (if (gI h 405 b.toNatClampNeg) = 4 then (c) else (gI h 419 (((144 * a) + b).toNatClampNeg)))).1 := le_sI hn4
    have hL11 : LK (sI (sI h 412 (((144 * a) + b).toNatClampNeg) 0) 419 (((144 * a) + b).toNatClampNeg) (if (gI h 405 b.toNatClampNeg) = 4 then (c) else (gI h 419 (((144 * a) + b).toNatClampNeg)))) := LK_sI hL4
    refine e_ld (pc' := 71) i163_70 rfl rfl ?_
    refine e_get (w := .ref 432) (pc' := 74) i163_71 rfl (x_isC (by decide) hn11 sh397) (x_fvR (by decide +kernel) (hL11 397 38 432 lk397_38)) ?_
    refine e_ld (pc' := 75) i163_74 rfl rfl ?_
    refine e_stk (pc' := 76) i163_75 rfl rfl ?_
    obtain ⟨g12, hP⟩ := hP
    refine e_al (n := b.toNatClampNeg) (w := .int (gI h 432 b.toNatClampNeg)) (pc' := 77) i163_76 rfl (x_alX (a := 20) (by decide) hn11 sh432 (by decide) g12) rfl (congrArg Value.int (Eq.trans (gI_osI (by decide)) (gI_osI (by decide)))) ?_
    refine e_cn (pc' := 78) i163_77 rfl ?_
    refine e_ib (z := (gI h 432 b.toNatClampNeg) + 1) (pc' := 79) i163_78 rfl rfl ?_
    obtain ⟨g13, hP⟩ := hP
    refine e_as (n := b.toNatClampNeg) (h' := aI (sI (sI h 412 (((144 * a) + b).toNatClampNeg) 0) 419 (((144 * a) + b).toNatClampNeg) (if (gI h 405 b.toNatClampNeg) = 4 then (c) else (gI h 419 (((144 * a) + b).toNatClampNeg)))) 432 b.toNatClampNeg 1) (pc' := 80) i163_79 rfl (x_alX (a := 20) (by decide) hn11 sh432 (by decide) g13) rfl (by rw [show (SH 432).1 = 20 by rw [sh432]]; exact congrArg (fun z => some (sI (sI (sI h 412 (((144 * a) + b).toNatClampNeg) 0) 419 (((144 * a) + b).toNatClampNeg) (if (gI h 405 b.toNatClampNeg) = 4 then (c) else (gI h 419 (((144 * a) + b).toNatClampNeg)))) 432 b.toNatClampNeg (z + 1))) (Eq.symm (Eq.trans (gI_osI (by decide)) (gI_osI (by decide))))) ?_
    have hn14 : 444 ≤ (aI (sI (sI h 412 (((144 * a) + b).toNatClampNeg) 0) 419 (((144 * a) + b).toNatClampNeg) (if (gI h 405 b.toNatClampNeg) = 4 then (c) else (gI h 419 (((144 * a) + b).toNatClampNeg)))) 432 b.toNatClampNeg 1).1 := le_aI hn11
    have hL14 : LK (aI (sI (sI h 412 (((144 * a) + b).toNatClampNeg) 0) 419 (((144 * a) + b).toNatClampNeg) (if (gI h 405 b.toNatClampNeg) = 4 then (c) else (gI h 419 (((144 * a) + b).toNatClampNeg)))) 432 b.toNatClampNeg 1) := LK_aI hL11
    refine e_ld (pc' := 81) i163_80 rfl rfl ?_
    refine e_cn (pc' := 82) i163_81 rfl ?_
    refine e_put (h' := sI (aI (sI (sI h 412 (((144 * a) + b).toNatClampNeg) 0) 419 (((144 * a) + b).toNatClampNeg) (if (gI h 405 b.toNatClampNeg) = 4 then (c) else (gI h 419 (((144 * a) + b).toNatClampNeg)))) 432 b.toNatClampNeg 1) 397 36 1) (pc' := 85) i163_82 rfl (x_isC (by decide) hn14 sh397) rfl ?_
    have hn15 : 444 ≤ (sI (aI (sI (sI h 412 (((144 * a) + b).toNatClampNeg) 0) 419 (((144 * a) + b).toNatClampNeg) (if (gI h 405 b.toNatClampNeg) = 4 then (c) else (gI h 419 (((144 * a) + b).toNatClampNeg)))) 432 b.toNatClampNeg 1) 397 36 1).1 := le_sI hn14
    have hL15 : LK (sI (aI (sI (sI h 412 (((144 * a) + b).toNatClampNeg) 0) 419 (((144 * a) + b).toNatClampNeg) (if (gI h 405 b.toNatClampNeg) = 4 then (c) else (gI h 419 (((144 * a) + b).toNatClampNeg)))) 432 b.toNatClampNeg 1) 397 36 1) := LK_sI hL14
    refine e_rt i163_85 rfl ?_
    exact ⟨rfl, by unfold G163; simp only [if_neg (show ¬ ((gI h 405 b.toNatClampNeg) = 6) from (of_decide_eq_true c2))]⟩
  · replace hP := hP.1 (Decidable.not_not.mp (of_decide_eq_false c2))
    refine e_ld (pc' := 21) i163_20 rfl rfl ?_
    refine e_get (w := .ref 414) (pc' := 24) i163_21 rfl (x_isC (by decide) hn sh397) (x_fvR (by decide +kernel) (hL 397 18 414 lk397_18)) ?_
    refine e_ld (pc' := 26) i163_24 rfl rfl ?_
    refine e_stk (pc' := 27) i163_26 rfl rfl ?_
    obtain ⟨g16, hP⟩ := hP
    refine e_al (n := ((144 * a) + b).toNatClampNeg) (w := .int (gI h 414 (((144 * a) + b).toNatClampNeg))) (pc' := 28) i163_27 rfl (x_alX (a := 20) (by decide) hn sh414 (by decide) g16) rfl rfl ?_
    refine e_cn (pc' := 29) i163_28 rfl ?_
    refine e_ib (z := (gI h 414 (((144 * a) + b).toNatClampNeg)) - 1) (pc' := 30) i163_29 rfl rfl ?_
    obtain ⟨g17, hP⟩ := hP
    refine e_as (n := ((144 * a) + b).toNatClampNeg) (h' := bI h 414 (((144 * a) + b).toNatClampNeg) 1) (pc' := 31) i163_30 rfl (x_alX (a := 20) (by decide) hn sh414 (by decide) g17) rfl (by rw [show (SH 414).1 = 20 by rw [sh414]]; rfl) ?_
    have hn18 : 444 ≤ (bI h 414 (((144 * a) + b).toNatClampNeg) 1).1 := le_bI hn
    have hL18 : LK (bI h 414 (((144 * a) + b).toNatClampNeg) 1) := LK_bI hL
    refine e_go i163_31 ?_
    refine e_ld (pc' := 43) i163_42 rfl rfl ?_
    refine e_get (w := .ref 419) (pc' := 46) i163_43 rfl (x_isC (by decide) hn18 sh397) (x_fvR (by decide +kernel) (hL18 397 23 419 lk397_23)) ?_
    refine e_ld (pc' := 48) i163_46 rfl rfl ?_
    refine e_ld (pc' := 49) i163_48 rfl rfl ?_
    refine e_get (w := .ref 405) (pc' := 52) i163_49 rfl (x_isC (by decide) hn18 sh397) (x_fvR (by decide +kernel) (hL18 397 8 405 lk397_8)) ?_
    refine e_ld (pc' := 53) i163_52 rfl rfl ?_
    obtain ⟨g19, hP⟩ := hP
    refine e_al (n := b.toNatClampNeg) (w := .int (gI h 405 b.toNatClampNeg)) (pc' := 54) i163_53 rfl (x_alX (a := 20) (by decide) hn18 sh405 (by decide) g19) rfl (congrArg Value.int (gI_obI (by decide))) ?_
    refine e_cn (pc' := 55) i163_54 rfl ?_
    obtain ⟨hR23, hP⟩ := hP
    refine e_reg (pc' := 69) (ls' := [some (.ref 397), some (.int a), some (.int b), some (.int c), some (.int ((144 * a) + b))]) (st' := [.int (if (gI h 405 b.toNatClampNeg) = 4 then (c) else (gI h 419 (((144 * a) + b).toNatClampNeg))), .int ((144 * a) + b), .ref 419]) (fun kj20 => ?_) ?_
    · replace hP := hR23
      refine e_ic (pc' := 58) i163_55 rfl (fun c21 => ?_) (fun c21 => ?_)
      · replace hP := hP.2 (of_decide_eq_true c21)
        refine e_ld (pc' := 63) i163_62 rfl rfl ?_
        refine e_get (w := .ref 419) (pc' := 66) i163_63 rfl (x_isC (by decide) hn18 sh397) (x_fvR (by decide +kernel) (hL18 397 23 419 lk397_23)) ?_
        refine e_ld (pc' := 68) i163_66 rfl rfl ?_
        obtain ⟨g22, hP⟩ := hP
        refine e_al (n := ((144 * a) + b).toNatClampNeg) (w := .int (gI h 419 (((144 * a) + b).toNatClampNeg))) (pc' := 69) i163_68 rfl (x_alX (a := 20) (by decide) hn18 sh419 (by decide) g22) rfl (congrArg Value.int (gI_obI (by decide))) ?_
        exact (by simp only [if_neg (show ¬ ((gI h 405 b.toNatClampNeg) = 4) from (of_decide_eq_true c21))] at kj20 ⊢; exact kj20)
      · replace hP := hP.1 (Decidable.not_not.mp (of_decide_eq_false c21))
        refine e_ld (pc' := 59) i163_58 rfl rfl ?_
        refine e_go i163_59 ?_
        exact (by simp only [if_pos (show (gI h 405 b.toNatClampNeg) = 4 from (Decidable.not_not.mp (of_decide_eq_false c21)))] at kj20 ⊢; exact kj20)
    obtain ⟨g24, hP⟩ := hP
    refine e_as (n := ((144 * a) + b).toNatClampNeg) (h' := sI (bI h 414 (((144 * a) + b).toNatClampNeg) 1) 419 (((144 * a) + b).toNatClampNeg) (if (gI h 405 b.toNatClampNeg) = 4 then (c) else (gI h 419 (((144 * a) + b).toNatClampNeg)))) (pc' := 70) i163_69 rfl (x_alX (a := 20) (by decide) hn18 sh419 (by decide) g24) rfl (by rw [show (SH 419).1 = 20 by rw [sh419]]; rfl) ?_
    have hn25 : 444 ≤ (sI (bI h 414 (((144 * a) + b).toNatClampNeg) 1) 419 (((144 * a) + b).toNatClampNeg) (if (gI h 405 b.toNatClampNeg) = 4 then (c) else (gI h 419 (((144 * a) + b).toNatClampNeg)))).1 := le_sI hn18
    have hL25 : LK (sI (bI h 414 (((144 * a) + b).toNatClampNeg) 1) 419 (((144 * a) + b).toNatClampNeg) (if (gI h 405 b.toNatClampNeg) = 4 then (c) else (gI h 419 (((144 * a) + b).toNatClampNeg)))) := LK_sI hL18
    refine e_ld (pc' := 71) i163_70 rfl rfl ?_
    refine e_get (w := .ref 432) (pc' := 74) i163_71 rfl (x_isC (by decide) hn25 sh397) (x_fvR (by decide +kernel) (hL25 397 38 432 lk397_38)) ?_
    refine e_ld (pc' := 75) i163_74 rfl rfl ?_
    refine e_stk (pc' := 76) i163_75 rfl rfl ?_
    obtain ⟨g26, hP⟩ := hP
    refine e_al (n := b.toNatClampNeg) (w := .int (gI h 432 b.toNatClampNeg)) (pc' := 77) i163_76 rfl (x_alX (a := 20) (by decide) hn25 sh432 (by decide) g26) rfl (congrArg Value.int (Eq.trans (gI_osI (by decide)) (gI_obI (by decide)))) ?_
    refine e_cn (pc' := 78) i163_77 rfl ?_
    refine e_ib (z := (gI h 432 b.toNatClampNeg) + 1) (pc' := 79) i163_78 rfl rfl ?_
    obtain ⟨g27, hP⟩ := hP
    refine e_as (n := b.toNatClampNeg) (h' := aI (sI (bI h 414 (((144 * a) + b).toNatClampNeg) 1) 419 (((144 * a) + b).toNatClampNeg) (if (gI h 405 b.toNatClampNeg) = 4 then (c) else (gI h 419 (((144 * a) + b).toNatClampNeg)))) 432 b.toNatClampNeg 1) (pc' := 80) i163_79 rfl (x_alX (a := 20) (by decide) hn25 sh432 (by decide) g27) rfl (by rw [show (SH 432).1 = 20 by rw [sh432]]; exact congrArg (fun z => some (sI (sI (bI h 414 (((144 * a) + b).toNatClampNeg) 1) 419 (((144 * a) + b).toNatClampNeg) (if (gI h 405 b.toNatClampNeg) = 4 then (c) else (gI h 419 (((144 * a) + b).toNatClampNeg)))) 432 b.toNatClampNeg (z + 1))) (Eq.symm (Eq.trans (gI_osI (by decide)) (gI_obI (by decide))))) ?_
    have hn28 : 444 ≤ (aI (sI (bI h 414 (((144 * a) + b).toNatClampNeg) 1) 419 (((144 * a) + b).toNatClampNeg) (if (gI h 405 b.toNatClampNeg) = 4 then (c) else (gI h 419 (((144 * a) + b).toNatClampNeg)))) 432 b.toNatClampNeg 1).1 := le_aI hn25
    have hL28 : LK (aI (sI (bI h 414 (((144 * a) + b).toNatClampNeg) 1) 419 (((144 * a) + b).toNatClampNeg) (if (gI h 405 b.toNatClampNeg) = 4 then (c) else (gI h 419 (((144 * a) + b).toNatClampNeg)))) 432 b.toNatClampNeg 1) := LK_aI hL25
    refine e_ld (pc' := 81) i163_80 rfl rfl ?_
    refine e_cn (pc' := 82) i163_81 rfl ?_
    refine e_put (h' := sI (aI (sI (bI h 414 (((144 * a) + b).toNatClampNeg) 1) 419 (((144 * a) + b).toNatClampNeg) (if (gI h 405 b.toNatClampNeg) = 4 then (c) else (gI h 419 (((144 * a) + b).toNatClampNeg)))) 432 b.toNatClampNeg 1) 397 36 1) (pc' := 85) i163_82 rfl (x_isC (by decide) hn28 sh397) rfl ?_
    have hn29 : 444 ≤ (sI (aI (sI (bI h 414 (((144 * a) + b).toNatClampNeg) 1) 419 (((144 * a) + b).toNatClampNeg) (if (gI h 405 b.toNatClampNeg) = 4 then (c) else (gI h 419 (((144 * a) + b).toNatClampNeg)))) 432 b.toNatClampNeg 1) 397 36 1).1 := le_sI hn28
    have hL29 : LK (sI (aI (sI (bI h 414 (((144 * a) + b).toNatClampNeg) 1) 419 (((144 * a) + b).toNatClampNeg) (if (gI h 405 b.toNatClampNeg) = 4 then (c) else (gI h 419 (((144 * a) + b).toNatClampNeg)))) 432 b.toNatClampNeg 1) 397 36 1) := LK_sI hL28
    refine e_rt i163_85 rfl ?_
    exact ⟨rfl, by unfold G163; simp only [if_pos (show (gI h 405 b.toNatClampNeg) = 6 from (Decidable.not_not.mp (of_decide_eq_false c2)))]⟩
/-- FloorTurnModel.turned(I)I -/
def F174 (a : Int32) (h : Hp) : Int32 := if (gI h 397 40) = 0 then ((-1)) else (if (x_in3 a 0 4) = true then (gI h 434 a.toNatClampNeg) else ((-1)))
def P174 (a : Int32) (h : Hp) : Prop := ((((gI h 397 40) = 0) → (True)) ∧ (¬ ((gI h 397 40) = 0) → (((((x_in3 a 0 4) = true) → ((vp_in a 5) ∧ (True))) ∧ (¬ ((x_in3 a 0 4) = true) → (True))) ∧ (True)))) ∧ (True)
set_option maxHeartbeats 8000000 in
set_option maxRecDepth 100000 in
theorem m174 {L : Nat} {xs : Nat → Int32} {h : Hp} {a : Int32} (hn : 444 ≤ h.1) (hL : LK h) (hP : P174 a h) : Sp L xs 174 [.ref 397, .int a] h (some (.int (F174 a h))) h := by
  unfold P174 at hP
  refine sp_of (ls := [some (.ref 397), some (.int a)]) rfl ?_
  refine e_ld (pc' := 1) i174_0 rfl rfl ?_
  refine e_get (w := .int (gI h 397 40)) (pc' := 4) i174_1 rfl (x_isC (by decide) hn sh397) rfl ?_
  obtain ⟨hR7, hP⟩ := hP
  refine e_reg (pc' := 26) (ls' := [some (.ref 397), some (.int a)]) (st' := [.int (if (gI h 397 40) = 0 then ((-1)) else (if (x_in3 a 0 4) = true then (gI h 434 a.toNatClampNeg) else ((-1))))]) (fun kj1 => ?_) ?_
  · replace hP := hR7
    refine e_if (pc' := 7) i174_4 rfl (fun c2 => ?_) (fun c2 => ?_)
    · replace hP := hP.1 (of_decide_eq_true c2)
      refine e_cn (pc' := 26) i174_25 rfl ?_
      exact (by simp only [if_pos (show (gI h 397 40) = 0 from (of_decide_eq_true c2))] at kj1 ⊢; exact kj1)
    · replace hP := hP.2 (of_decide_eq_false c2)
      refine e_ld (pc' := 8) i174_7 rfl rfl ?_
      refine e_cn (pc' := 9) i174_8 rfl ?_
      refine e_cn (pc' := 10) i174_9 rfl ?_
      refine e_cI (w := .int (b2i (x_in3 a 0 4))) (As := [.int a, .int 0, .int 4]) (rest := []) (pc' := 13) i174_10 rfl rfl rfl rfl rfl m123 ?_
      obtain ⟨hR6, hP⟩ := hP
      refine e_reg (pc' := 26) (ls' := [some (.ref 397), some (.int a)]) (st' := [.int (if (x_in3 a 0 4) = true then (gI h 434 a.toNatClampNeg) else ((-1)))]) (fun kj3 => ?_) ?_
      · replace hP := hR6
        refine e_b0 (pc' := 16) i174_13 rfl (fun c4 => ?_) (fun c4 => ?_)
        · replace hP := hP.2 (show ¬ (x_in3 a 0 4) = true by rw [c4]; decide)
          refine e_cn (pc' := 26) i174_25 rfl ?_
          exact (by simp only [if_neg (show ¬ (x_in3 a 0 4) = true by rw [c4]; decide)] at kj3 ⊢; exact kj3)
        · replace hP := hP.1 c4
          refine e_ld (pc' := 17) i174_16 rfl rfl ?_
          refine e_get (w := .ref 434) (pc' := 20) i174_17 rfl (x_isC (by decide) hn sh397) (x_fvR (by decide +kernel) (hL 397 41 434 lk397_41)) ?_
          refine e_ld (pc' := 21) i174_20 rfl rfl ?_
          obtain ⟨g5, hP⟩ := hP
          refine e_al (n := a.toNatClampNeg) (w := .int (gI h 434 a.toNatClampNeg)) (pc' := 22) i174_21 rfl (x_alX (a := 20) (by decide) hn sh434 (by decide) g5) rfl rfl ?_
          refine e_go i174_22 ?_
          exact (by simp only [if_pos c4] at kj3 ⊢; exact kj3)
      exact (by simp only [if_neg (show ¬ ((gI h 397 40) = 0) from (of_decide_eq_false c2))] at kj1 ⊢; exact kj1)
  refine e_rt i174_26 rfl ?_
  exact ⟨by unfold F174; skip; rfl, rfl⟩
/-- FloorTurnModel.cellTurn(II)I -/
def F175 (a : Int32) (b : Int32) (h : Hp) : Int32 := if (gI h 397 40) = 0 then ((-1)) else (if (x_isCell a) = true then (if (gI h 436 a.toNatClampNeg) = 0 then ((-1)) else (if (x_in3 b 0 4) = true then (gI h 435 (((5 * a) + b).toNatClampNeg)) else ((-1)))) else ((-1)))
def P175 (a : Int32) (b : Int32) (h : Hp) : Prop := ((((gI h 397 40) = 0) → (True)) ∧ (¬ ((gI h 397 40) = 0) → (((((x_isCell a) = true) → ((vp_in a 144) ∧ (((((gI h 436 a.toNatClampNeg) = 0) → (True)) ∧ (¬ ((gI h 436 a.toNatClampNeg) = 0) → (((((x_in3 b 0 4) = true) → ((vp_in ((5 * a) + b) 720) ∧ (True))) ∧ (¬ ((x_in3 b 0 4) = true) → (True))) ∧ (True)))) ∧ (True)))) ∧ (¬ ((x_isCell a) = true) → (True))) ∧ (True)))) ∧ (True)
set_option maxHeartbeats 8000000 in
set_option maxRecDepth 100000 in
theorem m175 {L : Nat} {xs : Nat → Int32} {h : Hp} {a : Int32} {b : Int32} (hn : 444 ≤ h.1) (hL : LK h) (hP : P175 a b h) : Sp L xs 175 [.ref 397, .int a, .int b] h (some (.int (F175 a b h))) h := by
  unfold P175 at hP
  refine sp_of (ls := [some (.ref 397), some (.int a), some (.int b)]) rfl ?_
  refine e_ld (pc' := 1) i175_0 rfl rfl ?_
  refine e_get (w := .int (gI h 397 40)) (pc' := 4) i175_1 rfl (x_isC (by decide) hn sh397) rfl ?_
  obtain ⟨hR14, hP⟩ := hP
  refine e_reg (pc' := 46) (ls' := [some (.ref 397), some (.int a), some (.int b)]) (st' := [.int (if (gI h 397 40) = 0 then ((-1)) else (if (x_isCell a) = true then (if (gI h 436 a.toNatClampNeg) = 0 then ((-1)) else (if (x_in3 b 0 4) = true then (gI h 435 (((5 * a) + b).toNatClampNeg)) else ((-1)))) else ((-1))))]) (fun kj1 => ?_) ?_
  · replace hP := hR14
    refine e_if (pc' := 7) i175_4 rfl (fun c2 => ?_) (fun c2 => ?_)
    · replace hP := hP.1 (of_decide_eq_true c2)
      refine e_cn (pc' := 46) i175_45 rfl ?_
      exact (by simp only [if_pos (show (gI h 397 40) = 0 from (of_decide_eq_true c2))] at kj1 ⊢; exact kj1)
    · replace hP := hP.2 (of_decide_eq_false c2)
      refine e_ld (pc' := 8) i175_7 rfl rfl ?_
      refine e_cI (w := .int (b2i (x_isCell a))) (As := [.int a]) (rest := []) (pc' := 11) i175_8 rfl rfl rfl rfl rfl m125 ?_
      obtain ⟨hR13, hP⟩ := hP
      refine e_reg (pc' := 46) (ls' := [some (.ref 397), some (.int a), some (.int b)]) (st' := [.int (if (x_isCell a) = true then (if (gI h 436 a.toNatClampNeg) = 0 then ((-1)) else (if (x_in3 b 0 4) = true then (gI h 435 (((5 * a) + b).toNatClampNeg)) else ((-1)))) else ((-1)))]) (fun kj3 => ?_) ?_
      · replace hP := hR13
        refine e_b0 (pc' := 14) i175_11 rfl (fun c4 => ?_) (fun c4 => ?_)
        · replace hP := hP.2 (show ¬ (x_isCell a) = true by rw [c4]; decide)
          refine e_cn (pc' := 46) i175_45 rfl ?_
          exact (by simp only [if_neg (show ¬ (x_isCell a) = true by rw [c4]; decide)] at kj3 ⊢; exact kj3)
        · replace hP := hP.1 c4
          refine e_ld (pc' := 15) i175_14 rfl rfl ?_
          refine e_get (w := .ref 436) (pc' := 18) i175_15 rfl (x_isC (by decide) hn sh397) (x_fvR (by decide +kernel) (hL 397 43 436 lk397_43)) ?_
          refine e_ld (pc' := 19) i175_18 rfl rfl ?_
          obtain ⟨g5, hP⟩ := hP
          refine e_al (n := a.toNatClampNeg) (w := .int (gI h 436 a.toNatClampNeg)) (pc' := 20) i175_19 rfl (x_alX (a := 22) (by decide) hn sh436 (by decide) g5) rfl rfl ?_
          obtain ⟨hR12, hP⟩ := hP
          refine e_reg (pc' := 46) (ls' := [some (.ref 397), some (.int a), some (.int b)]) (st' := [.int (if (gI h 436 a.toNatClampNeg) = 0 then ((-1)) else (if (x_in3 b 0 4) = true then (gI h 435 (((5 * a) + b).toNatClampNeg)) else ((-1))))]) (fun kj6 => ?_) ?_
          · replace hP := hR12
            refine e_if (pc' := 23) i175_20 rfl (fun c7 => ?_) (fun c7 => ?_)
            · replace hP := hP.1 (of_decide_eq_true c7)
              refine e_cn (pc' := 46) i175_45 rfl ?_
              exact (by simp only [if_pos (show (gI h 436 a.toNatClampNeg) = 0 from (of_decide_eq_true c7))] at kj6 ⊢; exact kj6)
            · replace hP := hP.2 (of_decide_eq_false c7)
              refine e_ld (pc' := 24) i175_23 rfl rfl ?_
              refine e_cn (pc' := 25) i175_24 rfl ?_
              refine e_cn (pc' := 26) i175_25 rfl ?_
              refine e_cI (w := .int (b2i (x_in3 b 0 4))) (As := [.int b, .int 0, .int 4]) (rest := []) (pc' := 29) i175_26 rfl rfl rfl rfl rfl m123 ?_
              obtain ⟨hR11, hP⟩ := hP
              refine e_reg (pc' := 46) (ls' := [some (.ref 397), some (.int a), some (.int b)]) (st' := [.int (if (x_in3 b 0 4) = true then (gI h 435 (((5 * a) + b).toNatClampNeg)) else ((-1)))]) (fun kj8 => ?_) ?_
              · replace hP := hR11
                refine e_b0 (pc' := 32) i175_29 rfl (fun c9 => ?_) (fun c9 => ?_)
                · replace hP := hP.2 (show ¬ (x_in3 b 0 4) = true by rw [c9]; decide)
                  refine e_cn (pc' := 46) i175_45 rfl ?_
                  exact (by simp only [if_neg (show ¬ (x_in3 b 0 4) = true by rw [c9]; decide)] at kj8 ⊢; exact kj8)
                · replace hP := hP.1 c9
                  refine e_ld (pc' := 33) i175_32 rfl rfl ?_
                  refine e_get (w := .ref 435) (pc' := 36) i175_33 rfl (x_isC (by decide) hn sh397) (x_fvR (by decide +kernel) (hL 397 42 435 lk397_42)) ?_
                  refine e_cn (pc' := 37) i175_36 rfl ?_
                  refine e_ld (pc' := 38) i175_37 rfl rfl ?_
                  refine e_ib (z := 5 * a) (pc' := 39) i175_38 rfl rfl ?_
                  refine e_ld (pc' := 40) i175_39 rfl rfl ?_
                  refine e_ib (z := (5 * a) + b) (pc' := 41) i175_40 rfl rfl ?_
                  obtain ⟨g10, hP⟩ := hP
                  refine e_al (n := ((5 * a) + b).toNatClampNeg) (w := .int (gI h 435 (((5 * a) + b).toNatClampNeg))) (pc' := 42) i175_41 rfl (x_alX (a := 20) (by decide) hn sh435 (by decide) g10) rfl rfl ?_
                  refine e_go i175_42 ?_
                  exact (by simp only [if_pos c9] at kj8 ⊢; exact kj8)
              exact (by simp only [if_neg (show ¬ ((gI h 436 a.toNatClampNeg) = 0) from (of_decide_eq_false c7))] at kj6 ⊢; exact kj6)
          exact (by simp only [if_pos c4] at kj3 ⊢; exact kj3)
      exact (by simp only [if_neg (show ¬ ((gI h 397 40) = 0) from (of_decide_eq_false c2))] at kj1 ⊢; exact kj1)
  refine e_rt i175_46 rfl ?_
  exact ⟨by unfold F175; skip; rfl, rfl⟩
/-- FloorTurnModel.part(II)I -/
def F176 (a : Int32) (b : Int32) (h : Hp) : Int32 := if (x_isCell a) = true then (if (x_in3 b 0 14) = true then (if (gI h 405 a.toNatClampNeg) = 0 then (0) else (if b = 0 then (gI h 405 a.toNatClampNeg) else (if b = 1 then (gI h 406 a.toNatClampNeg) else (if b = 2 then (F156 0 a h) else (if b = 3 then (gI h 413 a.toNatClampNeg) else (if b = 4 then (gI h 414 a.toNatClampNeg) else (if b = 5 then (gI h 415 a.toNatClampNeg) else (if b = 6 then (b2i (if (gI h 416 a.toNatClampNeg) = 0 then (false) else (true))) else (if b = 7 then (gI h 417 ((2 * a).toNatClampNeg)) else (if b = 8 then (gI h 417 (((2 * a) + 1).toNatClampNeg)) else (if b = 9 then (gI h 418 a.toNatClampNeg) else (if b = 10 then (gI h 419 a.toNatClampNeg) else (if b = 11 then (gI h 407 a.toNatClampNeg) else (if b = 12 then (gI h 408 a.toNatClampNeg) else (if b = 13 then (gI h 409 a.toNatClampNeg) else (gI h 410 a.toNatClampNeg)))))))))))))))) else ((-1))) else ((-1))
def P176 (a : Int32) (b : Int32) (h : Hp) : Prop := (((x_isCell a) = true) → ((((x_in3 b 0 14) = true) → ((vp_in a 144) ∧ ((((gI h 405 a.toNatClampNeg) = 0) → (True)) ∧ (¬ ((gI h 405 a.toNatClampNeg) = 0) → (((b = 0) → ((vp_in a 144) ∧ (True))) ∧ (¬ (b = 0) → (((b = 1) → ((vp_in a 144) ∧ (True))) ∧ (¬ (b = 1) → (((b = 2) → ((P156 0 a h) ∧ (True))) ∧ (¬ (b = 2) → (((b = 3) → ((vp_in a 432) ∧ (True))) ∧ (¬ (b = 3) → (((b = 4) → ((vp_in a 432) ∧ (True))) ∧ (¬ (b = 4) → (((b = 5) → ((vp_in a 432) ∧ (True))) ∧ (¬ (b = 5) → (((b = 6) → ((vp_in a 432) ∧ (True))) ∧ (¬ (b = 6) → (((b = 7) → ((vp_in (2 * a) 864) ∧ (True))) ∧ (¬ (b = 7) → (((b = 8) → ((vp_in ((2 * a) + 1) 864) ∧ (True))) ∧ (¬ (b = 8) → (((b = 9) → ((vp_in a 432) ∧ (True))) ∧ (¬ (b = 9) → (((b = 10) → ((vp_in a 432) ∧ (True))) ∧ (¬ (b = 10) → (((b = 11) → ((vp_in a 144) ∧ (True))) ∧ (¬ (b = 11) → (((b = 12) → ((vp_in a 144) ∧ (True))) ∧ (¬ (b = 12) → (((b = 13) → ((vp_in a 144) ∧ (True))) ∧ (¬ (b = 13) → ((vp_in a 144) ∧ (True)))))))))))))))))))))))))))))))))) ∧ (¬ ((x_in3 b 0 14) = true) → (True)))) ∧ (¬ ((x_isCell a) = true) → (True))
set_option maxHeartbeats 8000000 in
set_option maxRecDepth 100000 in
theorem m176 {L : Nat} {xs : Nat → Int32} {h : Hp} {a : Int32} {b : Int32} (hn : 444 ≤ h.1) (hL : LK h) (hP : P176 a b h) : Sp L xs 176 [.ref 397, .int a, .int b] h (some (.int (F176 a b h))) h := by
  unfold P176 at hP
  refine sp_of (ls := [some (.ref 397), some (.int a), some (.int b)]) rfl ?_
  refine e_ld (pc' := 1) i176_0 rfl rfl ?_
  refine e_cI (w := .int (b2i (x_isCell a))) (As := [.int a]) (rest := []) (pc' := 4) i176_1 rfl rfl rfl rfl rfl m125 ?_
  refine e_b0 (pc' := 7) i176_4 rfl (fun c1 => ?_) (fun c1 => ?_)
  · replace hP := hP.2 (show ¬ (x_isCell a) = true by rw [c1]; decide)
    refine e_cn (pc' := 18) i176_17 rfl ?_
    refine e_rt i176_18 rfl ?_
    exact ⟨by unfold F176; simp only [if_neg (show ¬ (x_isCell a) = true by rw [c1]; decide)], rfl⟩
  · replace hP := hP.1 c1
    refine e_ld (pc' := 8) i176_7 rfl rfl ?_
    refine e_cn (pc' := 9) i176_8 rfl ?_
    refine e_cn (pc' := 11) i176_9 rfl ?_
    refine e_cI (w := .int (b2i (x_in3 b 0 14))) (As := [.int b, .int 0, .int 14]) (rest := []) (pc' := 14) i176_11 rfl rfl rfl rfl rfl m123 ?_
    refine e_b1 (pc' := 17) i176_14 rfl (fun c2 => ?_) (fun c2 => ?_)
    · replace hP := hP.1 c2
      refine e_ld (pc' := 20) i176_19 rfl rfl ?_
      refine e_get (w := .ref 405) (pc' := 23) i176_20 rfl (x_isC (by decide) hn sh397) (x_fvR (by decide +kernel) (hL 397 8 405 lk397_8)) ?_
      refine e_ld (pc' := 24) i176_23 rfl rfl ?_
      obtain ⟨g3, hP⟩ := hP
      refine e_al (n := a.toNatClampNeg) (w := .int (gI h 405 a.toNatClampNeg)) (pc' := 25) i176_24 rfl (x_alX (a := 20) (by decide) hn sh405 (by decide) g3) rfl rfl ?_
      refine e_if (pc' := 28) i176_25 rfl (fun c4 => ?_) (fun c4 => ?_)
      · replace hP := hP.2 (of_decide_eq_true c4)
        refine e_ld (pc' := 31) i176_30 rfl rfl ?_
        by_cases c5 : b = 0
        · replace hP := hP.1 c5
          refine e_tab (pc' := 100) i176_31 (by rw [c5]; rfl) ?_
          refine e_ld (pc' := 101) i176_100 rfl rfl ?_
          refine e_get (w := .ref 405) (pc' := 104) i176_101 rfl (x_isC (by decide) hn sh397) (x_fvR (by decide +kernel) (hL 397 8 405 lk397_8)) ?_
          refine e_ld (pc' := 105) i176_104 rfl rfl ?_
          obtain ⟨g6, hP⟩ := hP
          refine e_al (n := a.toNatClampNeg) (w := .int (gI h 405 a.toNatClampNeg)) (pc' := 106) i176_105 rfl (x_alX (a := 20) (by decide) hn sh405 (by decide) g6) rfl rfl ?_
          refine e_rt i176_106 rfl ?_
          exact ⟨by unfold F176; simp only [if_pos c1, if_pos c2, if_neg (show ¬ ((gI h 405 a.toNatClampNeg) = 0) from (of_decide_eq_true c4)), if_pos c5], rfl⟩
        · replace hP := hP.2 c5
          by_cases c7 : b = 1
          · replace hP := hP.1 c7
            refine e_tab (pc' := 107) i176_31 (by rw [c7]; rfl) ?_
            refine e_ld (pc' := 108) i176_107 rfl rfl ?_
            refine e_get (w := .ref 406) (pc' := 111) i176_108 rfl (x_isC (by decide) hn sh397) (x_fvR (by decide +kernel) (hL 397 9 406 lk397_9)) ?_
            refine e_ld (pc' := 112) i176_111 rfl rfl ?_
            obtain ⟨g8, hP⟩ := hP
            refine e_al (n := a.toNatClampNeg) (w := .int (gI h 406 a.toNatClampNeg)) (pc' := 113) i176_112 rfl (x_alX (a := 20) (by decide) hn sh406 (by decide) g8) rfl rfl ?_
            refine e_rt i176_113 rfl ?_
            exact ⟨by unfold F176; simp only [if_pos c1, if_pos c2, if_neg (show ¬ ((gI h 405 a.toNatClampNeg) = 0) from (of_decide_eq_true c4)), if_neg c5, if_pos c7], rfl⟩
          · replace hP := hP.2 c7
            by_cases c9 : b = 2
            · replace hP := hP.1 c9
              refine e_tab (pc' := 114) i176_31 (by rw [c9]; rfl) ?_
              refine e_ld (pc' := 115) i176_114 rfl rfl ?_
              refine e_cn (pc' := 116) i176_115 rfl ?_
              refine e_ld (pc' := 117) i176_116 rfl rfl ?_
              obtain ⟨g10, hP⟩ := hP
              refine e_cI (w := .int (F156 0 a h)) (As := [.ref 397, .int 0, .int a]) (rest := []) (pc' := 120) i176_117 rfl rfl rfl rfl (by show (Nat.beq (x_kd 156) 0 && x_is 397 _ (MC 156) 0) = true; rw [show x_kd 156 = 0 by decide +kernel, show MC 156 = 11 by decide +kernel, (x_isC (by decide) hn sh397)]; rfl) (m156 hn hL g10) ?_
              refine e_rt i176_120 rfl ?_
              exact ⟨by unfold F176; simp only [if_pos c1, if_pos c2, if_neg (show ¬ ((gI h 405 a.toNatClampNeg) = 0) from (of_decide_eq_true c4)), if_neg c5, if_neg c7, if_pos c9], rfl⟩
            · replace hP := hP.2 c9
              by_cases c11 : b = 3
              · replace hP := hP.1 c11
                refine e_tab (pc' := 121) i176_31 (by rw [c11]; rfl) ?_
                refine e_ld (pc' := 122) i176_121 rfl rfl ?_
                refine e_get (w := .ref 413) (pc' := 125) i176_122 rfl (x_isC (by decide) hn sh397) (x_fvR (by decide +kernel) (hL 397 17 413 lk397_17)) ?_
                refine e_ld (pc' := 126) i176_125 rfl rfl ?_
                obtain ⟨g12, hP⟩ := hP
                refine e_al (n := a.toNatClampNeg) (w := .int (gI h 413 a.toNatClampNeg)) (pc' := 127) i176_126 rfl (x_alX (a := 20) (by decide) hn sh413 (by decide) g12) rfl rfl ?_
                refine e_rt i176_127 rfl ?_
                exact ⟨by unfold F176; simp only [if_pos c1, if_pos c2, if_neg (show ¬ ((gI h 405 a.toNatClampNeg) = 0) from (of_decide_eq_true c4)), if_neg c5, if_neg c7, if_neg c9, if_pos c11], rfl⟩
              · replace hP := hP.2 c11
                by_cases c13 : b = 4
                · replace hP := hP.1 c13
                  refine e_tab (pc' := 128) i176_31 (by rw [c13]; rfl) ?_
                  refine e_ld (pc' := 129) i176_128 rfl rfl ?_
                  refine e_get (w := .ref 414) (pc' := 132) i176_129 rfl (x_isC (by decide) hn sh397) (x_fvR (by decide +kernel) (hL 397 18 414 lk397_18)) ?_
                  refine e_ld (pc' := 133) i176_132 rfl rfl ?_
                  obtain ⟨g14, hP⟩ := hP
                  refine e_al (n := a.toNatClampNeg) (w := .int (gI h 414 a.toNatClampNeg)) (pc' := 134) i176_133 rfl (x_alX (a := 20) (by decide) hn sh414 (by decide) g14) rfl rfl ?_
                  refine e_rt i176_134 rfl ?_
                  exact ⟨by unfold F176; simp only [if_pos c1, if_pos c2, if_neg (show ¬ ((gI h 405 a.toNatClampNeg) = 0) from (of_decide_eq_true c4)), if_neg c5, if_neg c7, if_neg c9, if_neg c11, if_pos c13], rfl⟩
                · replace hP := hP.2 c13
                  by_cases c15 : b = 5
                  · replace hP := hP.1 c15
                    refine e_tab (pc' := 135) i176_31 (by rw [c15]; rfl) ?_
                    refine e_ld (pc' := 136) i176_135 rfl rfl ?_
                    refine e_get (w := .ref 415) (pc' := 139) i176_136 rfl (x_isC (by decide) hn sh397) (x_fvR (by decide +kernel) (hL 397 19 415 lk397_19)) ?_
                    refine e_ld (pc' := 140) i176_139 rfl rfl ?_
                    obtain ⟨g16, hP⟩ := hP
                    refine e_al (n := a.toNatClampNeg) (w := .int (gI h 415 a.toNatClampNeg)) (pc' := 141) i176_140 rfl (x_alX (a := 20) (by decide) hn sh415 (by decide) g16) rfl rfl ?_
                    refine e_rt i176_141 rfl ?_
                    exact ⟨by unfold F176; simp only [if_pos c1, if_pos c2, if_neg (show ¬ ((gI h 405 a.toNatClampNeg) = 0) from (of_decide_eq_true c4)), if_neg c5, if_neg c7, if_neg c9, if_neg c11, if_neg c13, if_pos c15], rfl⟩
                  · replace hP := hP.2 c15
                    by_cases c17 : b = 6
                    · replace hP := hP.1 c17
                      refine e_tab (pc' := 142) i176_31 (by rw [c17]; rfl) ?_
                      refine e_ld (pc' := 143) i176_142 rfl rfl ?_
                      refine e_get (w := .ref 416) (pc' := 146) i176_143 rfl (x_isC (by decide) hn sh397) (x_fvR (by decide +kernel) (hL 397 20 416 lk397_20)) ?_
                      refine e_ld (pc' := 147) i176_146 rfl rfl ?_
                      obtain ⟨g18, hP⟩ := hP
                      refine e_al (n := a.toNatClampNeg) (w := .int (gI h 416 a.toNatClampNeg)) (pc' := 148) i176_147 rfl (x_alX (a := 22) (by decide) hn sh416 (by decide) g18) rfl rfl ?_
                      refine e_reg (pc' := 156) (ls' := [some (.ref 397), some (.int a), some (.int b)]) (st' := [.int (b2i (if (gI h 416 a.toNatClampNeg) = 0 then (false) else (true)))]) (fun kj19 => ?_) ?_
                      · skip
                        refine e_if (pc' := 151) i176_148 rfl (fun c20 => ?_) (fun c20 => ?_)
                        · skip
                          refine e_cn (pc' := 156) i176_155 rfl ?_
                          exact (by simp only [if_pos (show (gI h 416 a.toNatClampNeg) = 0 from (of_decide_eq_true c20))] at kj19 ⊢; exact kj19)
                        · skip
                          refine e_cn (pc' := 152) i176_151 rfl ?_
                          refine e_go i176_152 ?_
                          exact (by simp only [if_neg (show ¬ ((gI h 416 a.toNatClampNeg) = 0) from (of_decide_eq_false c20))] at kj19 ⊢; exact kj19)
                      refine e_rt i176_156 rfl ?_
                      exact ⟨by unfold F176; simp only [if_pos c1, if_pos c2, if_neg (show ¬ ((gI h 405 a.toNatClampNeg) = 0) from (of_decide_eq_true c4)), if_neg c5, if_neg c7, if_neg c9, if_neg c11, if_neg c13, if_neg c15, if_pos c17], rfl⟩
                    · replace hP := hP.2 c17
                      by_cases c21 : b = 7
                      · replace hP := hP.1 c21
                        refine e_tab (pc' := 157) i176_31 (by rw [c21]; rfl) ?_
                        refine e_ld (pc' := 158) i176_157 rfl rfl ?_
                        refine e_get (w := .ref 417) (pc' := 161) i176_158 rfl (x_isC (by decide) hn sh397) (x_fvR (by decide +kernel) (hL 397 21 417 lk397_21)) ?_
                        refine e_cn (pc' := 162) i176_161 rfl ?_
                        refine e_ld (pc' := 163) i176_162 rfl rfl ?_
                        refine e_ib (z := 2 * a) (pc' := 164) i176_163 rfl rfl ?_
                        obtain ⟨g22, hP⟩ := hP
                        refine e_al (n := (2 * a).toNatClampNeg) (w := .int (gI h 417 ((2 * a).toNatClampNeg))) (pc' := 165) i176_164 rfl (x_alX (a := 20) (by decide) hn sh417 (by decide) g22) rfl rfl ?_
                        refine e_rt i176_165 rfl ?_
                        exact ⟨by unfold F176; simp only [if_pos c1, if_pos c2, if_neg (show ¬ ((gI h 405 a.toNatClampNeg) = 0) from (of_decide_eq_true c4)), if_neg c5, if_neg c7, if_neg c9, if_neg c11, if_neg c13, if_neg c15, if_neg c17, if_pos c21], rfl⟩
                      · replace hP := hP.2 c21
                        by_cases c23 : b = 8
                        · replace hP := hP.1 c23
                          refine e_tab (pc' := 166) i176_31 (by rw [c23]; rfl) ?_
                          refine e_ld (pc' := 167) i176_166 rfl rfl ?_
                          refine e_get (w := .ref 417) (pc' := 170) i176_167 rfl (x_isC (by decide) hn sh397) (x_fvR (by decide +kernel) (hL 397 21 417 lk397_21)) ?_
                          refine e_cn (pc' := 171) i176_170 rfl ?_
                          refine e_ld (pc' := 172) i176_171 rfl rfl ?_
                          refine e_ib (z := 2 * a) (pc' := 173) i176_172 rfl rfl ?_
                          refine e_cn (pc' := 174) i176_173 rfl ?_
                          refine e_ib (z := (2 * a) + 1) (pc' := 175) i176_174 rfl rfl ?_
                          obtain ⟨g24, hP⟩ := hP
                          refine e_al (n := ((2 * a) + 1).toNatClampNeg) (w := .int (gI h 417 (((2 * a) + 1).toNatClampNeg))) (pc' := 176) i176_175 rfl (x_alX (a := 20) (by decide) hn sh417 (by decide) g24) rfl rfl ?_
                          refine e_rt i176_176 rfl ?_
                          exact ⟨by unfold F176; simp only [if_pos c1, if_pos c2, if_neg (show ¬ ((gI h 405 a.toNatClampNeg) = 0) from (of_decide_eq_true c4)), if_neg c5, if_neg c7, if_neg c9, if_neg c11, if_neg c13, if_neg c15, if_neg c17, if_neg c21, if_pos c23], rfl⟩
                        · replace hP := hP.2 c23
                          by_cases c25 : b = 9
                          · replace hP := hP.1 c25
                            refine e_tab (pc' := 177) i176_31 (by rw [c25]; rfl) ?_
                            refine e_ld (pc' := 178) i176_177 rfl rfl ?_
                            refine e_get (w := .ref 418) (pc' := 181) i176_178 rfl (x_isC (by decide) hn sh397) (x_fvR (by decide +kernel) (hL 397 22 418 lk397_22)) ?_
                            refine e_ld (pc' := 182) i176_181 rfl rfl ?_
                            obtain ⟨g26, hP⟩ := hP
                            refine e_al (n := a.toNatClampNeg) (w := .int (gI h 418 a.toNatClampNeg)) (pc' := 183) i176_182 rfl (x_alX (a := 20) (by decide) hn sh418 (by decide) g26) rfl rfl ?_
                            refine e_rt i176_183 rfl ?_
                            exact ⟨by unfold F176; simp only [if_pos c1, if_pos c2, if_neg (show ¬ ((gI h 405 a.toNatClampNeg) = 0) from (of_decide_eq_true c4)), if_neg c5, if_neg c7, if_neg c9, if_neg c11, if_neg c13, if_neg c15, if_neg c17, if_neg c21, if_neg c23, if_pos c25], rfl⟩
                          · replace hP := hP.2 c25
                            by_cases c27 : b = 10
                            · replace hP := hP.1 c27
                              refine e_tab (pc' := 184) i176_31 (by rw [c27]; rfl) ?_
                              refine e_ld (pc' := 185) i176_184 rfl rfl ?_
                              refine e_get (w := .ref 419) (pc' := 188) i176_185 rfl (x_isC (by decide) hn sh397) (x_fvR (by decide +kernel) (hL 397 23 419 lk397_23)) ?_
                              refine e_ld (pc' := 189) i176_188 rfl rfl ?_
                              obtain ⟨g28, hP⟩ := hP
                              refine e_al (n := a.toNatClampNeg) (w := .int (gI h 419 a.toNatClampNeg)) (pc' := 190) i176_189 rfl (x_alX (a := 20) (by decide) hn sh419 (by decide) g28) rfl rfl ?_
                              refine e_rt i176_190 rfl ?_
                              exact ⟨by unfold F176; simp only [if_pos c1, if_pos c2, if_neg (show ¬ ((gI h 405 a.toNatClampNeg) = 0) from (of_decide_eq_true c4)), if_neg c5, if_neg c7, if_neg c9, if_neg c11, if_neg c13, if_neg c15, if_neg c17, if_neg c21, if_neg c23, if_neg c25, if_pos c27], rfl⟩
                            · replace hP := hP.2 c27
                              by_cases c29 : b = 11
                              · replace hP := hP.1 c29
                                refine e_tab (pc' := 191) i176_31 (by rw [c29]; rfl) ?_
                                refine e_ld (pc' := 192) i176_191 rfl rfl ?_
                                refine e_get (w := .ref 407) (pc' := 195) i176_192 rfl (x_isC (by decide) hn sh397) (x_fvR (by decide +kernel) (hL 397 10 407 lk397_10)) ?_
                                refine e_ld (pc' := 196) i176_195 rfl rfl ?_
                                obtain ⟨g30, hP⟩ := hP
                                refine e_al (n := a.toNatClampNeg) (w := .int (gI h 407 a.toNatClampNeg)) (pc' := 197) i176_196 rfl (x_alX (a := 20) (by decide) hn sh407 (by decide) g30) rfl rfl ?_
                                refine e_rt i176_197 rfl ?_
                                exact ⟨by unfold F176; simp only [if_pos c1, if_pos c2, if_neg (show ¬ ((gI h 405 a.toNatClampNeg) = 0) from (of_decide_eq_true c4)), if_neg c5, if_neg c7, if_neg c9, if_neg c11, if_neg c13, if_neg c15, if_neg c17, if_neg c21, if_neg c23, if_neg c25, if_neg c27, if_pos c29], rfl⟩
                              · replace hP := hP.2 c29
                                by_cases c31 : b = 12
                                · replace hP := hP.1 c31
                                  refine e_tab (pc' := 198) i176_31 (by rw [c31]; rfl) ?_
                                  refine e_ld (pc' := 199) i176_198 rfl rfl ?_
                                  refine e_get (w := .ref 408) (pc' := 202) i176_199 rfl (x_isC (by decide) hn sh397) (x_fvR (by decide +kernel) (hL 397 11 408 lk397_11)) ?_
                                  refine e_ld (pc' := 203) i176_202 rfl rfl ?_
                                  obtain ⟨g32, hP⟩ := hP
                                  refine e_al (n := a.toNatClampNeg) (w := .int (gI h 408 a.toNatClampNeg)) (pc' := 204) i176_203 rfl (x_alX (a := 20) (by decide) hn sh408 (by decide) g32) rfl rfl ?_
                                  refine e_rt i176_204 rfl ?_
                                  exact ⟨by unfold F176; simp only [if_pos c1, if_pos c2, if_neg (show ¬ ((gI h 405 a.toNatClampNeg) = 0) from (of_decide_eq_true c4)), if_neg c5, if_neg c7, if_neg c9, if_neg c11, if_neg c13, if_neg c15, if_neg c17, if_neg c21, if_neg c23, if_neg c25, if_neg c27, if_neg c29, if_pos c31], rfl⟩
                                · replace hP := hP.2 c31
                                  by_cases c33 : b = 13
                                  · replace hP := hP.1 c33
                                    refine e_tab (pc' := 205) i176_31 (by rw [c33]; rfl) ?_
                                    refine e_ld (pc' := 206) i176_205 rfl rfl ?_
                                    refine e_get (w := .ref 409) (pc' := 209) i176_206 rfl (x_isC (by decide) hn sh397) (x_fvR (by decide +kernel) (hL 397 12 409 lk397_12)) ?_
                                    refine e_ld (pc' := 210) i176_209 rfl rfl ?_
                                    obtain ⟨g34, hP⟩ := hP
                                    refine e_al (n := a.toNatClampNeg) (w := .int (gI h 409 a.toNatClampNeg)) (pc' := 211) i176_210 rfl (x_alX (a := 20) (by decide) hn sh409 (by decide) g34) rfl rfl ?_
                                    refine e_rt i176_211 rfl ?_
                                    exact ⟨by unfold F176; simp only [if_pos c1, if_pos c2, if_neg (show ¬ ((gI h 405 a.toNatClampNeg) = 0) from (of_decide_eq_true c4)), if_neg c5, if_neg c7, if_neg c9, if_neg c11, if_neg c13, if_neg c15, if_neg c17, if_neg c21, if_neg c23, if_neg c25, if_neg c27, if_neg c29, if_neg c31, if_pos c33], rfl⟩
                                  · replace hP := hP.2 c33
                                    replace hP := hP
                                    refine e_tab (pc' := 212) i176_31 (x_tgt_out (by decide) (fun k (hk : k < 14) => by rcases (show k = 0 ∨ k = 1 ∨ k = 2 ∨ k = 3 ∨ k = 4 ∨ k = 5 ∨ k = 6 ∨ k = 7 ∨ k = 8 ∨ k = 9 ∨ k = 10 ∨ k = 11 ∨ k = 12 ∨ k = 13 by omega) with rfl | rfl | rfl | rfl | rfl | rfl | rfl | rfl | rfl | rfl | rfl | rfl | rfl | rfl <;> assumption)) ?_
                                    refine e_ld (pc' := 213) i176_212 rfl rfl ?_
                                    refine e_get (w := .ref 410) (pc' := 216) i176_213 rfl (x_isC (by decide) hn sh397) (x_fvR (by decide +kernel) (hL 397 13 410 lk397_13)) ?_
                                    refine e_ld (pc' := 217) i176_216 rfl rfl ?_
                                    obtain ⟨g35, hP⟩ := hP
                                    refine e_al (n := a.toNatClampNeg) (w := .int (gI h 410 a.toNatClampNeg)) (pc' := 218) i176_217 rfl (x_alX (a := 20) (by decide) hn sh410 (by decide) g35) rfl rfl ?_
                                    refine e_rt i176_218 rfl ?_
                                    exact ⟨by unfold F176; simp only [if_pos c1, if_pos c2, if_neg (show ¬ ((gI h 405 a.toNatClampNeg) = 0) from (of_decide_eq_true c4)), if_neg c5, if_neg c7, if_neg c9, if_neg c11, if_neg c13, if_neg c15, if_neg c17, if_neg c21, if_neg c23, if_neg c25, if_neg c27, if_neg c29, if_neg c31, if_neg c33], rfl⟩
      · replace hP := hP.1 (Decidable.not_not.mp (of_decide_eq_false c4))
        refine e_cn (pc' := 29) i176_28 rfl ?_
        refine e_rt i176_29 rfl ?_
        exact ⟨by unfold F176; simp only [if_pos c1, if_pos c2, if_pos (show (gI h 405 a.toNatClampNeg) = 0 from (Decidable.not_not.mp (of_decide_eq_false c4)))], rfl⟩
    · replace hP := hP.2 (show ¬ (x_in3 b 0 14) = true by rw [c2]; decide)
      refine e_cn (pc' := 18) i176_17 rfl ?_
      refine e_rt i176_18 rfl ?_
      exact ⟨by unfold F176; simp only [if_pos c1, if_neg (show ¬ (x_in3 b 0 14) = true by rw [c2]; decide)], rfl⟩
/-- FloorTurnModel.sunk(I)I -/
def F177 (a : Int32) (h : Hp) : Int32 := if (x_isItem a) = true then (gI h 411 a.toNatClampNeg) else (0)
def P177 (a : Int32) (h : Hp) : Prop := ((((x_isItem a) = true) → ((vp_in a 21) ∧ (True))) ∧ (¬ ((x_isItem a) = true) → (True))) ∧ (True)
set_option maxHeartbeats 8000000 in
set_option maxRecDepth 100000 in
theorem m177 {L : Nat} {xs : Nat → Int32} {h : Hp} {a : Int32} (hn : 444 ≤ h.1) (hL : LK h) (hP : P177 a h) : Sp L xs 177 [.ref 397, .int a] h (some (.int (F177 a h))) h := by
  unfold P177 at hP
  refine sp_of (ls := [some (.ref 397), some (.int a)]) rfl ?_
  refine e_ld (pc' := 1) i177_0 rfl rfl ?_
  refine e_cI (w := .int (b2i (x_isItem a))) (As := [.int a]) (rest := []) (pc' := 4) i177_1 rfl rfl rfl rfl rfl m126 ?_
  obtain ⟨hR4, hP⟩ := hP
  refine e_reg (pc' := 17) (ls' := [some (.ref 397), some (.int a)]) (st' := [.int (if (x_isItem a) = true then (gI h 411 a.toNatClampNeg) else (0))]) (fun kj1 => ?_) ?_
  · replace hP := hR4
    refine e_b0 (pc' := 7) i177_4 rfl (fun c2 => ?_) (fun c2 => ?_)
    · replace hP := hP.2 (show ¬ (x_isItem a) = true by rw [c2]; decide)
      refine e_cn (pc' := 17) i177_16 rfl ?_
      exact (by simp only [if_neg (show ¬ (x_isItem a) = true by rw [c2]; decide)] at kj1 ⊢; exact kj1)
    · replace hP := hP.1 c2
      refine e_ld (pc' := 8) i177_7 rfl rfl ?_
      refine e_get (w := .ref 411) (pc' := 11) i177_8 rfl (x_isC (by decide) hn sh397) (x_fvR (by decide +kernel) (hL 397 15 411 lk397_15)) ?_
      refine e_ld (pc' := 12) i177_11 rfl rfl ?_
      obtain ⟨g3, hP⟩ := hP
      refine e_al (n := a.toNatClampNeg) (w := .int (gI h 411 a.toNatClampNeg)) (pc' := 13) i177_12 rfl (x_alX (a := 20) (by decide) hn sh411 (by decide) g3) rfl rfl ?_
      refine e_go i177_13 ?_
      exact (by simp only [if_pos c2] at kj1 ⊢; exact kj1)
  refine e_rt i177_17 rfl ?_
  exact ⟨by unfold F177; skip; rfl, rfl⟩
/-- FloorTurnModel.machines(I)I -/
def F183 (a : Int32) (h : Hp) : Int32 := if (x_in3 a 0 ((gI h 397 1) - 1)) = true then (gI h 441 a.toNatClampNeg) else (0)
def P183 (a : Int32) (h : Hp) : Prop := ((((x_in3 a 0 ((gI h 397 1) - 1)) = true) → ((vp_in a 8) ∧ (True))) ∧ (¬ ((x_in3 a 0 ((gI h 397 1) - 1)) = true) → (True))) ∧ (True)
set_option maxHeartbeats 8000000 in
set_option maxRecDepth 100000 in
theorem m183 {L : Nat} {xs : Nat → Int32} {h : Hp} {a : Int32} (hn : 444 ≤ h.1) (hL : LK h) (hP : P183 a h) : Sp L xs 183 [.ref 397, .int a] h (some (.int (F183 a h))) h := by
  unfold P183 at hP
  refine sp_of (ls := [some (.ref 397), some (.int a)]) rfl ?_
  refine e_ld (pc' := 1) i183_0 rfl rfl ?_
  refine e_cn (pc' := 2) i183_1 rfl ?_
  refine e_ld (pc' := 3) i183_2 rfl rfl ?_
  refine e_get (w := .int (gI h 397 1)) (pc' := 6) i183_3 rfl (x_isC (by decide) hn sh397) rfl ?_
  refine e_cn (pc' := 7) i183_6 rfl ?_
  refine e_ib (z := (gI h 397 1) - 1) (pc' := 8) i183_7 rfl rfl ?_
  refine e_cI (w := .int (b2i (x_in3 a 0 ((gI h 397 1) - 1)))) (As := [.int a, .int 0, .int ((gI h 397 1) - 1)]) (rest := []) (pc' := 11) i183_8 rfl rfl rfl rfl rfl m123 ?_
  obtain ⟨hR4, hP⟩ := hP
  refine e_reg (pc' := 24) (ls' := [some (.ref 397), some (.int a)]) (st' := [.int (if (x_in3 a 0 ((gI h 397 1) - 1)) = true then (gI h 441 a.toNatClampNeg) else (0))]) (fun kj1 => ?_) ?_
  · replace hP := hR4
    refine e_b0 (pc' := 14) i183_11 rfl (fun c2 => ?_) (fun c2 => ?_)
    · replace hP := hP.2 (show ¬ (x_in3 a 0 ((gI h 397 1) - 1)) = true by rw [c2]; decide)
      refine e_cn (pc' := 24) i183_23 rfl ?_
      exact (by simp only [if_neg (show ¬ (x_in3 a 0 ((gI h 397 1) - 1)) = true by rw [c2]; decide)] at kj1 ⊢; exact kj1)
    · replace hP := hP.1 c2
      refine e_ld (pc' := 15) i183_14 rfl rfl ?_
      refine e_get (w := .ref 441) (pc' := 18) i183_15 rfl (x_isC (by decide) hn sh397) (x_fvR (by decide +kernel) (hL 397 48 441 lk397_48)) ?_
      refine e_ld (pc' := 19) i183_18 rfl rfl ?_
      obtain ⟨g3, hP⟩ := hP
      refine e_al (n := a.toNatClampNeg) (w := .int (gI h 441 a.toNatClampNeg)) (pc' := 20) i183_19 rfl (x_alX (a := 20) (by decide) hn sh441 (by decide) g3) rfl rfl ?_
      refine e_go i183_20 ?_
      exact (by simp only [if_pos c2] at kj1 ⊢; exact kj1)
  refine e_rt i183_24 rfl ?_
  exact ⟨by unfold F183; skip; rfl, rfl⟩
/-- FloorTurnModel.rate(IZ)J -/
def F184 (a : Int32) (b : Bool) (h : Hp) : Int64 := if (x_isItem a) = true then (if b = true then (gL h 438 a.toNatClampNeg) else (gL h 437 a.toNatClampNeg)) else (if b = true then (1) else (0))
def P184 (a : Int32) (b : Bool) (h : Hp) : Prop := ((((x_isItem a) = true) → ((((b = true) → ((vp_in a 21) ∧ (True))) ∧ (¬ (b = true) → ((vp_in a 21) ∧ (True)))) ∧ (True))) ∧ (¬ ((x_isItem a) = true) → (True))) ∧ (True)
set_option maxHeartbeats 8000000 in
set_option maxRecDepth 100000 in
theorem m184 {L : Nat} {xs : Nat → Int32} {h : Hp} {a : Int32} {b : Bool} (hn : 444 ≤ h.1) (hL : LK h) (hP : P184 a b h) : Sp L xs 184 [.ref 397, .int a, .int (b2i b)] h (some (.long (F184 a b h))) h := by
  unfold P184 at hP
  refine sp_of (ls := [some (.ref 397), some (.int a), some (.int (b2i b))]) rfl ?_
  refine e_ld (pc' := 1) i184_0 rfl rfl ?_
  refine e_cI (w := .int (b2i (x_isItem a))) (As := [.int a]) (rest := []) (pc' := 4) i184_1 rfl rfl rfl rfl rfl m126 ?_
  obtain ⟨hR10, hP⟩ := hP
  refine e_reg (pc' := 38) (ls' := [some (.ref 397), some (.int a), some (.int (b2i b))]) (st' := [.long (if (x_isItem a) = true then (if b = true then (gL h 438 a.toNatClampNeg) else (gL h 437 a.toNatClampNeg)) else (if b = true then (1) else (0)))]) (fun kj1 => ?_) ?_
  · replace hP := hR10
    refine e_b1 (pc' := 7) i184_4 rfl (fun c2 => ?_) (fun c2 => ?_)
    · replace hP := hP.1 c2
      refine e_ld (pc' := 20) i184_19 rfl rfl ?_
      obtain ⟨hR7, hP⟩ := hP
      refine e_reg (pc' := 38) (ls' := [some (.ref 397), some (.int a), some (.int (b2i b))]) (st' := [.long (if b = true then (gL h 438 a.toNatClampNeg) else (gL h 437 a.toNatClampNeg))]) (fun kj3 => ?_) ?_
      · replace hP := hR7
        refine e_b0 (pc' := 23) i184_20 rfl (fun c4 => ?_) (fun c4 => ?_)
        · replace hP := hP.2 (show ¬ b = true by rw [c4]; decide)
          refine e_ld (pc' := 33) i184_32 rfl rfl ?_
          refine e_get (w := .ref 437) (pc' := 36) i184_33 rfl (x_isC (by decide) hn sh397) (x_fvR (by decide +kernel) (hL 397 44 437 lk397_44)) ?_
          refine e_ld (pc' := 37) i184_36 rfl rfl ?_
          obtain ⟨g5, hP⟩ := hP
          refine e_al (n := a.toNatClampNeg) (w := .long (gL h 437 a.toNatClampNeg)) (pc' := 38) i184_37 rfl (x_alX (a := 21) (by decide) hn sh437 (by decide) g5) rfl rfl ?_
          exact (by simp only [if_neg (show ¬ b = true by rw [c4]; decide)] at kj3 ⊢; exact kj3)
        · replace hP := hP.1 c4
          refine e_ld (pc' := 24) i184_23 rfl rfl ?_
          refine e_get (w := .ref 438) (pc' := 27) i184_24 rfl (x_isC (by decide) hn sh397) (x_fvR (by decide +kernel) (hL 397 45 438 lk397_45)) ?_
          refine e_ld (pc' := 28) i184_27 rfl rfl ?_
          obtain ⟨g6, hP⟩ := hP
          refine e_al (n := a.toNatClampNeg) (w := .long (gL h 438 a.toNatClampNeg)) (pc' := 29) i184_28 rfl (x_alX (a := 21) (by decide) hn sh438 (by decide) g6) rfl rfl ?_
          refine e_go i184_29 ?_
          exact (by simp only [if_pos c4] at kj3 ⊢; exact kj3)
      exact (by simp only [if_pos c2] at kj1 ⊢; exact kj1)
    · replace hP := hP.2 (show ¬ (x_isItem a) = true by rw [c2]; decide)
      refine e_ld (pc' := 8) i184_7 rfl rfl ?_
      refine e_reg (pc' := 38) (ls' := [some (.ref 397), some (.int a), some (.int (b2i b))]) (st' := [.long (if b = true then (1) else (0))]) (fun kj8 => ?_) ?_
      · skip
        refine e_b0 (pc' := 11) i184_8 rfl (fun c9 => ?_) (fun c9 => ?_)
        · skip
          refine e_cn (pc' := 16) i184_15 rfl ?_
          refine e_go i184_16 ?_
          exact (by simp only [if_neg (show ¬ b = true by rw [c9]; decide)] at kj8 ⊢; exact kj8)
        · skip
          refine e_cn (pc' := 12) i184_11 rfl ?_
          refine e_go i184_12 ?_
          exact (by simp only [if_pos c9] at kj8 ⊢; exact kj8)
      exact (by simp only [if_neg (show ¬ (x_isItem a) = true by rw [c2]; decide)] at kj1 ⊢; exact kj1)
  refine e_rt i184_38 rfl ?_
  exact ⟨by unfold F184; skip; rfl, rfl⟩
/-- FloorTurnModel.mayGive(I)Z -/
def F187 (a : Int32) (h : Hp) : Bool := if (x_isCell a) = true then (if (gI h 405 a.toNatClampNeg) = 0 then (false) else (if (gI h 405 a.toNatClampNeg) = 2 then (false) else (if (gI h 405 a.toNatClampNeg) = 7 then (false) else (true)))) else (false)
def P187 (a : Int32) (h : Hp) : Prop := ((((x_isCell a) = true) → ((vp_in a 144) ∧ (((((gI h 405 a.toNatClampNeg) = 0) → (True)) ∧ (¬ ((gI h 405 a.toNatClampNeg) = 0) → ((vp_in a 144) ∧ (((((gI h 405 a.toNatClampNeg) = 2) → (True)) ∧ (¬ ((gI h 405 a.toNatClampNeg) = 2) → ((vp_in a 144) ∧ (True)))) ∧ (True))))) ∧ (True)))) ∧ (¬ ((x_isCell a) = true) → (True))) ∧ (True)
set_option maxHeartbeats 8000000 in
set_option maxRecDepth 100000 in
theorem m187 {L : Nat} {xs : Nat → Int32} {h : Hp} {a : Int32} (hn : 444 ≤ h.1) (hL : LK h) (hP : P187 a h) : Sp L xs 187 [.ref 397, .int a] h (some (.int (b2i (F187 a h)))) h := by
  unfold P187 at hP
  refine sp_of (ls := [some (.ref 397), some (.int a)]) rfl ?_
  refine e_ld (pc' := 1) i187_0 rfl rfl ?_
  refine e_cI (w := .int (b2i (x_isCell a))) (As := [.int a]) (rest := []) (pc' := 4) i187_1 rfl rfl rfl rfl rfl m125 ?_
  obtain ⟨hR14, hP⟩ := hP
  refine e_reg (pc' := 42) (ls' := [some (.ref 397), some (.int a)]) (st' := [.int (b2i (if (x_isCell a) = true then (if (gI h 405 a.toNatClampNeg) = 0 then (false) else (if (gI h 405 a.toNatClampNeg) = 2 then (false) else (if (gI h 405 a.toNatClampNeg) = 7 then (false) else (true)))) else (false)))]) (fun kj1 => ?_) ?_
  · replace hP := hR14
    refine e_b0 (pc' := 7) i187_4 rfl (fun c2 => ?_) (fun c2 => ?_)
    · replace hP := hP.2 (show ¬ (x_isCell a) = true by rw [c2]; decide)
      refine e_cn (pc' := 42) i187_41 rfl ?_
      exact (by simp only [if_neg (show ¬ (x_isCell a) = true by rw [c2]; decide)] at kj1 ⊢; exact kj1)
    · replace hP := hP.1 c2
      refine e_ld (pc' := 8) i187_7 rfl rfl ?_
      refine e_get (w := .ref 405) (pc' := 11) i187_8 rfl (x_isC (by decide) hn sh397) (x_fvR (by decide +kernel) (hL 397 8 405 lk397_8)) ?_
      refine e_ld (pc' := 12) i187_11 rfl rfl ?_
      obtain ⟨g3, hP⟩ := hP
      refine e_al (n := a.toNatClampNeg) (w := .int (gI h 405 a.toNatClampNeg)) (pc' := 13) i187_12 rfl (x_alX (a := 20) (by decide) hn sh405 (by decide) g3) rfl rfl ?_
      obtain ⟨hR13, hP⟩ := hP
      refine e_reg (pc' := 42) (ls' := [some (.ref 397), some (.int a)]) (st' := [.int (b2i (if (gI h 405 a.toNatClampNeg) = 0 then (false) else (if (gI h 405 a.toNatClampNeg) = 2 then (false) else (if (gI h 405 a.toNatClampNeg) = 7 then (false) else (true)))))]) (fun kj4 => ?_) ?_
      · replace hP := hR13
        refine e_if (pc' := 16) i187_13 rfl (fun c5 => ?_) (fun c5 => ?_)
        · replace hP := hP.1 (of_decide_eq_true c5)
          refine e_cn (pc' := 42) i187_41 rfl ?_
          exact (by simp only [if_pos (show (gI h 405 a.toNatClampNeg) = 0 from (of_decide_eq_true c5))] at kj4 ⊢; exact kj4)
        · replace hP := hP.2 (of_decide_eq_false c5)
          refine e_ld (pc' := 17) i187_16 rfl rfl ?_
          refine e_get (w := .ref 405) (pc' := 20) i187_17 rfl (x_isC (by decide) hn sh397) (x_fvR (by decide +kernel) (hL 397 8 405 lk397_8)) ?_
          refine e_ld (pc' := 21) i187_20 rfl rfl ?_
          obtain ⟨g6, hP⟩ := hP
          refine e_al (n := a.toNatClampNeg) (w := .int (gI h 405 a.toNatClampNeg)) (pc' := 22) i187_21 rfl (x_alX (a := 20) (by decide) hn sh405 (by decide) g6) rfl rfl ?_
          refine e_cn (pc' := 23) i187_22 rfl ?_
          obtain ⟨hR12, hP⟩ := hP
          refine e_reg (pc' := 42) (ls' := [some (.ref 397), some (.int a)]) (st' := [.int (b2i (if (gI h 405 a.toNatClampNeg) = 2 then (false) else (if (gI h 405 a.toNatClampNeg) = 7 then (false) else (true))))]) (fun kj7 => ?_) ?_
          · replace hP := hR12
            refine e_ic (pc' := 26) i187_23 rfl (fun c8 => ?_) (fun c8 => ?_)
            · replace hP := hP.1 (of_decide_eq_true c8)
              refine e_cn (pc' := 42) i187_41 rfl ?_
              exact (by simp only [if_pos (show (gI h 405 a.toNatClampNeg) = 2 from (of_decide_eq_true c8))] at kj7 ⊢; exact kj7)
            · replace hP := hP.2 (of_decide_eq_false c8)
              refine e_ld (pc' := 27) i187_26 rfl rfl ?_
              refine e_get (w := .ref 405) (pc' := 30) i187_27 rfl (x_isC (by decide) hn sh397) (x_fvR (by decide +kernel) (hL 397 8 405 lk397_8)) ?_
              refine e_ld (pc' := 31) i187_30 rfl rfl ?_
              obtain ⟨g9, hP⟩ := hP
              refine e_al (n := a.toNatClampNeg) (w := .int (gI h 405 a.toNatClampNeg)) (pc' := 32) i187_31 rfl (x_alX (a := 20) (by decide) hn sh405 (by decide) g9) rfl rfl ?_
              refine e_cn (pc' := 34) i187_32 rfl ?_
              refine e_reg (pc' := 42) (ls' := [some (.ref 397), some (.int a)]) (st' := [.int (b2i (if (gI h 405 a.toNatClampNeg) = 7 then (false) else (true)))]) (fun kj10 => ?_) ?_
              · skip
                refine e_ic (pc' := 37) i187_34 rfl (fun c11 => ?_) (fun c11 => ?_)
                · skip
                  refine e_cn (pc' := 42) i187_41 rfl ?_
                  exact (by simp only [if_pos (show (gI h 405 a.toNatClampNeg) = 7 from (of_decide_eq_true c11))] at kj10 ⊢; exact kj10)
                · skip
                  refine e_cn (pc' := 38) i187_37 rfl ?_
                  refine e_go i187_38 ?_
                  exact (by simp only [if_neg (show ¬ ((gI h 405 a.toNatClampNeg) = 7) from (of_decide_eq_false c11))] at kj10 ⊢; exact kj10)
              exact (by simp only [if_neg (show ¬ ((gI h 405 a.toNatClampNeg) = 2) from (of_decide_eq_false c8))] at kj7 ⊢; exact kj7)
          exact (by simp only [if_neg (show ¬ ((gI h 405 a.toNatClampNeg) = 0) from (of_decide_eq_false c5))] at kj4 ⊢; exact kj4)
      exact (by simp only [if_pos c2] at kj1 ⊢; exact kj1)
  refine e_rt (r := some (.int (b2i (if (x_isCell a) = true then (if (gI h 405 a.toNatClampNeg) = 0 then (false) else (if (gI h 405 a.toNatClampNeg) = 2 then (false) else (if (gI h 405 a.toNatClampNeg) = 7 then (false) else (true)))) else (false))))) i187_42 (by simp only [x_rt, show MR 187 = some .boolean by decide +kernel, b2i_01, cond_true]) ?_
  exact ⟨by unfold F187; skip; rfl, rfl⟩
/-- FloorTurnModel.mayTake(I)Z -/
def F188 (a : Int32) (h : Hp) : Bool := if (x_isCell a) = true then (if (gI h 405 a.toNatClampNeg) = 0 then (false) else (if (gI h 405 a.toNatClampNeg) = 3 then (false) else (if (gI h 405 a.toNatClampNeg) = 5 then (false) else (true)))) else (false)
def P188 (a : Int32) (h : Hp) : Prop := ((((x_isCell a) = true) → ((vp_in a 144) ∧ (((((gI h 405 a.toNatClampNeg) = 0) → (True)) ∧ (¬ ((gI h 405 a.toNatClampNeg) = 0) → ((vp_in a 144) ∧ (((((gI h 405 a.toNatClampNeg) = 3) → (True)) ∧ (¬ ((gI h 405 a.toNatClampNeg) = 3) → ((vp_in a 144) ∧ (True)))) ∧ (True))))) ∧ (True)))) ∧ (¬ ((x_isCell a) = true) → (True))) ∧ (True)
set_option maxHeartbeats 8000000 in
set_option maxRecDepth 100000 in
theorem m188 {L : Nat} {xs : Nat → Int32} {h : Hp} {a : Int32} (hn : 444 ≤ h.1) (hL : LK h) (hP : P188 a h) : Sp L xs 188 [.ref 397, .int a] h (some (.int (b2i (F188 a h)))) h := by
  unfold P188 at hP
  refine sp_of (ls := [some (.ref 397), some (.int a)]) rfl ?_
  refine e_ld (pc' := 1) i188_0 rfl rfl ?_
  refine e_cI (w := .int (b2i (x_isCell a))) (As := [.int a]) (rest := []) (pc' := 4) i188_1 rfl rfl rfl rfl rfl m125 ?_
  obtain ⟨hR14, hP⟩ := hP
  refine e_reg (pc' := 41) (ls' := [some (.ref 397), some (.int a)]) (st' := [.int (b2i (if (x_isCell a) = true then (if (gI h 405 a.toNatClampNeg) = 0 then (false) else (if (gI h 405 a.toNatClampNeg) = 3 then (false) else (if (gI h 405 a.toNatClampNeg) = 5 then (false) else (true)))) else (false)))]) (fun kj1 => ?_) ?_
  · replace hP := hR14
    refine e_b0 (pc' := 7) i188_4 rfl (fun c2 => ?_) (fun c2 => ?_)
    · replace hP := hP.2 (show ¬ (x_isCell a) = true by rw [c2]; decide)
      refine e_cn (pc' := 41) i188_40 rfl ?_
      exact (by simp only [if_neg (show ¬ (x_isCell a) = true by rw [c2]; decide)] at kj1 ⊢; exact kj1)
    · replace hP := hP.1 c2
      refine e_ld (pc' := 8) i188_7 rfl rfl ?_
      refine e_get (w := .ref 405) (pc' := 11) i188_8 rfl (x_isC (by decide) hn sh397) (x_fvR (by decide +kernel) (hL 397 8 405 lk397_8)) ?_
      refine e_ld (pc' := 12) i188_11 rfl rfl ?_
      obtain ⟨g3, hP⟩ := hP
      refine e_al (n := a.toNatClampNeg) (w := .int (gI h 405 a.toNatClampNeg)) (pc' := 13) i188_12 rfl (x_alX (a := 20) (by decide) hn sh405 (by decide) g3) rfl rfl ?_
      obtain ⟨hR13, hP⟩ := hP
      refine e_reg (pc' := 41) (ls' := [some (.ref 397), some (.int a)]) (st' := [.int (b2i (if (gI h 405 a.toNatClampNeg) = 0 then (false) else (if (gI h 405 a.toNatClampNeg) = 3 then (false) else (if (gI h 405 a.toNatClampNeg) = 5 then (false) else (true)))))]) (fun kj4 => ?_) ?_
      · replace hP := hR13
        refine e_if (pc' := 16) i188_13 rfl (fun c5 => ?_) (fun c5 => ?_)
        · replace hP := hP.1 (of_decide_eq_true c5)
          refine e_cn (pc' := 41) i188_40 rfl ?_
          exact (by simp only [if_pos (show (gI h 405 a.toNatClampNeg) = 0 from (of_decide_eq_true c5))] at kj4 ⊢; exact kj4)
        · replace hP := hP.2 (of_decide_eq_false c5)
          refine e_ld (pc' := 17) i188_16 rfl rfl ?_
          refine e_get (w := .ref 405) (pc' := 20) i188_17 rfl (x_isC (by decide) hn sh397) (x_fvR (by decide +kernel) (hL 397 8 405 lk397_8)) ?_
          refine e_ld (pc' := 21) i188_20 rfl rfl ?_
          obtain ⟨g6, hP⟩ := hP
          refine e_al (n := a.toNatClampNeg) (w := .int (gI h 405 a.toNatClampNeg)) (pc' := 22) i188_21 rfl (x_alX (a := 20) (by decide) hn sh405 (by decide) g6) rfl rfl ?_
          refine e_cn (pc' := 23) i188_22 rfl ?_
          obtain ⟨hR12, hP⟩ := hP
          refine e_reg (pc' := 41) (ls' := [some (.ref 397), some (.int a)]) (st' := [.int (b2i (if (gI h 405 a.toNatClampNeg) = 3 then (false) else (if (gI h 405 a.toNatClampNeg) = 5 then (false) else (true))))]) (fun kj7 => ?_) ?_
          · replace hP := hR12
            refine e_ic (pc' := 26) i188_23 rfl (fun c8 => ?_) (fun c8 => ?_)
            · replace hP := hP.1 (of_decide_eq_true c8)
              refine e_cn (pc' := 41) i188_40 rfl ?_
              exact (by simp only [if_pos (show (gI h 405 a.toNatClampNeg) = 3 from (of_decide_eq_true c8))] at kj7 ⊢; exact kj7)
            · replace hP := hP.2 (of_decide_eq_false c8)
              refine e_ld (pc' := 27) i188_26 rfl rfl ?_
              refine e_get (w := .ref 405) (pc' := 30) i188_27 rfl (x_isC (by decide) hn sh397) (x_fvR (by decide +kernel) (hL 397 8 405 lk397_8)) ?_
              refine e_ld (pc' := 31) i188_30 rfl rfl ?_
              obtain ⟨g9, hP⟩ := hP
              refine e_al (n := a.toNatClampNeg) (w := .int (gI h 405 a.toNatClampNeg)) (pc' := 32) i188_31 rfl (x_alX (a := 20) (by decide) hn sh405 (by decide) g9) rfl rfl ?_
              refine e_cn (pc' := 33) i188_32 rfl ?_
              refine e_reg (pc' := 41) (ls' := [some (.ref 397), some (.int a)]) (st' := [.int (b2i (if (gI h 405 a.toNatClampNeg) = 5 then (false) else (true)))]) (fun kj10 => ?_) ?_
              · skip
                refine e_ic (pc' := 36) i188_33 rfl (fun c11 => ?_) (fun c11 => ?_)
                · skip
                  refine e_cn (pc' := 41) i188_40 rfl ?_
                  exact (by simp only [if_pos (show (gI h 405 a.toNatClampNeg) = 5 from (of_decide_eq_true c11))] at kj10 ⊢; exact kj10)
                · skip
                  refine e_cn (pc' := 37) i188_36 rfl ?_
                  refine e_go i188_37 ?_
                  exact (by simp only [if_neg (show ¬ ((gI h 405 a.toNatClampNeg) = 5) from (of_decide_eq_false c11))] at kj10 ⊢; exact kj10)
              exact (by simp only [if_neg (show ¬ ((gI h 405 a.toNatClampNeg) = 3) from (of_decide_eq_false c8))] at kj7 ⊢; exact kj7)
          exact (by simp only [if_neg (show ¬ ((gI h 405 a.toNatClampNeg) = 0) from (of_decide_eq_false c5))] at kj4 ⊢; exact kj4)
      exact (by simp only [if_pos c2] at kj1 ⊢; exact kj1)
  refine e_rt (r := some (.int (b2i (if (x_isCell a) = true then (if (gI h 405 a.toNatClampNeg) = 0 then (false) else (if (gI h 405 a.toNatClampNeg) = 3 then (false) else (if (gI h 405 a.toNatClampNeg) = 5 then (false) else (true)))) else (false))))) i188_41 (by simp only [x_rt, show MR 188 = some .boolean by decide +kernel, b2i_01, cond_true]) ?_
  exact ⟨by unfold F188; skip; rfl, rfl⟩
