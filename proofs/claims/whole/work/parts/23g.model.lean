/-! The reference's methods without loops, as functions. -/
/-- FloorTurnModel.gives(IIII)Z -/
def F161 (a : Int32) (b : Int32) (c : Int32) (d : Int32) (h : Hp) : Bool := if (F127 b c h) = (-1) then (false) else (if (F157 a (F127 b c h) d ((c + 2) - (c + 2) / 4 * 4) b h) = true then (true) else (false))
def G161 (a : Int32) (b : Int32) (c : Int32) (d : Int32) (h : Hp) : Hp := if (F127 b c h) = (-1) then (h) else (if (F157 a (F127 b c h) d ((c + 2) - (c + 2) / 4 * 4) b h) = true then (G159 a b (F127 b c h) ((c + 2) - (c + 2) / 4 * 4) (((((c + 2) - (c + 2) / 4 * 4) - (gI h 418 (((144 * a) + (F127 b c h)).toNatClampNeg))) + 7) - ((((c + 2) - (c + 2) / 4 * 4) - (gI h 418 (((144 * a) + (F127 b c h)).toNatClampNeg))) + 7) / 4 * 4) h) else (h))
theorem n_G161 (a : Int32) (b : Int32) (c : Int32) (d : Int32) (h : Hp) : (G161 a b c d h).1 = h.1 := by
  unfold G161
  (repeat' split) <;> first | rfl | (simp only [n_sI, n_sL, n_sR, n_G159])
theorem r_G161 (a : Int32) (b : Int32) (c : Int32) (d : Int32) (h : Hp) : gR (G161 a b c d h) = gR h := by
  unfold G161
  (repeat' split) <;> first | rfl | (simp only [gR_sI, gR_sL, r_G159])
def P161 (a : Int32) (b : Int32) (c : Int32) (d : Int32) (h : Hp) : Prop := (((F127 b c h) = (-1)) → (True)) ∧ (¬ ((F127 b c h) = (-1)) → ((P157 a (F127 b c h) d ((c + 2) - (c + 2) / 4 * 4) b h) ∧ ((((F157 a (F127 b c h) d ((c + 2) - (c + 2) / 4 * 4) b h) = true) → ((vp_in ((144 * a) + (F127 b c h)) 432) ∧ ((P159 a b (F127 b c h) ((c + 2) - (c + 2) / 4 * 4) (((((c + 2) - (c + 2) / 4 * 4) - (gI h 418 (((144 * a) + (F127 b c h)).toNatClampNeg))) + 7) - ((((c + 2) - (c + 2) / 4 * 4) - (gI h 418 (((144 * a) + (F127 b c h)).toNatClampNeg))) + 7) / 4 * 4) h) ∧ (True)))) ∧ (¬ ((F157 a (F127 b c h) d ((c + 2) - (c + 2) / 4 * 4) b h) = true) → (True)))))
set_option maxHeartbeats 8000000 in
theorem m161 {L : Nat} {xs : Nat → Int32} {h : Hp} {a : Int32} {b : Int32} {c : Int32} {d : Int32} (hn : 444 ≤ h.1) (hL : LK h) (hP : P161 a b c d h) : Sp L xs 161 [.ref 397, .int a, .int b, .int c, .int d] h (some (.int (b2i (F161 a b c d h)))) (G161 a b c d h) := by
  unfold P161 at hP
  refine sp_of (ls := [some (.ref 397), some (.int a), some (.int b), some (.int c), some (.int d), none, none]) rfl ?_
  refine e_ld (pc' := 1) i161_0 rfl rfl ?_
  refine e_ld (pc' := 2) i161_1 rfl rfl ?_
  refine e_cI (w := .int (F127 b c h)) (As := [.int b, .int c]) (rest := []) (pc' := 5) i161_2 rfl rfl rfl rfl rfl m127 ?_
  refine e_st (ls' := [some (.ref 397), some (.int a), some (.int b), some (.int c), some (.int d), some (.int (F127 b c h)), none]) (pc' := 7) i161_5 rfl rfl rfl ?_
  refine e_ld (pc' := 8) i161_7 rfl rfl ?_
  refine e_cn (pc' := 9) i161_8 rfl ?_
  refine e_ib (z := c + 2) (pc' := 10) i161_9 rfl rfl ?_
  refine e_cn (pc' := 11) i161_10 rfl ?_
  refine e_ib (z := (c + 2) - (c + 2) / 4 * 4) (pc' := 12) i161_11 rfl (x_ib_rem (by decide)) ?_
  refine e_st (ls' := [some (.ref 397), some (.int a), some (.int b), some (.int c), some (.int d), some (.int (F127 b c h)), some (.int ((c + 2) - (c + 2) / 4 * 4))]) (pc' := 14) i161_12 rfl rfl rfl ?_
  refine e_ld (pc' := 16) i161_14 rfl rfl ?_
  refine e_cn (pc' := 17) i161_16 rfl ?_
  refine e_ic (pc' := 20) i161_17 rfl (fun c1 => ?_) (fun c1 => ?_)
  · replace hP := hP.1 (of_decide_eq_true c1)
    refine e_cn (pc' := 36) i161_35 rfl ?_
    refine e_rt i161_36 rfl ?_
    exact ⟨by unfold F161; simp only [if_pos (show (F127 b c h) = (-1) from (of_decide_eq_true c1))]; rfl, by unfold G161; simp only [if_pos (show (F127 b c h) = (-1) from (of_decide_eq_true c1))]⟩
  · replace hP := hP.2 (of_decide_eq_false c1)
    refine e_ld (pc' := 21) i161_20 rfl rfl ?_
    refine e_ld (pc' := 22) i161_21 rfl rfl ?_
    refine e_ld (pc' := 24) i161_22 rfl rfl ?_
    refine e_ld (pc' := 26) i161_24 rfl rfl ?_
    refine e_ld (pc' := 28) i161_26 rfl rfl ?_
    refine e_ld (pc' := 29) i161_28 rfl rfl ?_
    obtain ⟨g2, hP⟩ := hP
    refine e_cI (w := .int (b2i (F157 a (F127 b c h) d ((c + 2) - (c + 2) / 4 * 4) b h))) (As := [.ref 397, .int a, .int (F127 b c h), .int d, .int ((c + 2) - (c + 2) / 4 * 4), .int b]) (rest := []) (pc' := 32) i161_29 rfl rfl rfl rfl (by show (Nat.beq (x_kd 157) 0 && x_is 397 _ (MC 157) 0) = true; rw [show x_kd 157 = 0 by decide +kernel, show MC 157 = 11 by decide +kernel, (x_isC (by decide) hn sh397)]; rfl) (m157 hn hL g2) ?_
    refine e_b1 (pc' := 35) i161_32 rfl (fun c3 => ?_) (fun c3 => ?_)
    · replace hP := hP.1 c3
      refine e_ld (pc' := 38) i161_37 rfl rfl ?_
      refine e_ld (pc' := 39) i161_38 rfl rfl ?_
      refine e_ld (pc' := 40) i161_39 rfl rfl ?_
      refine e_ld (pc' := 42) i161_40 rfl rfl ?_
      refine e_ld (pc' := 44) i161_42 rfl rfl ?_
      refine e_ld (pc' := 46) i161_44 rfl rfl ?_
      refine e_ld (pc' := 47) i161_46 rfl rfl ?_
      refine e_get (w := .ref 418) (pc' := 50) i161_47 rfl (x_isC (by decide) hn sh397) (x_fvR (by decide +kernel) (hL 397 22 418 lk397_22)) ?_
      refine e_cn (pc' := 53) i161_50 rfl ?_
      refine e_ld (pc' := 54) i161_53 rfl rfl ?_
      refine e_ib (z := 144 * a) (pc' := 55) i161_54 rfl rfl ?_
      refine e_ld (pc' := 57) i161_55 rfl rfl ?_
      refine e_ib (z := (144 * a) + (F127 b c h)) (pc' := 58) i161_57 rfl rfl ?_
      obtain ⟨g4, hP⟩ := hP
      refine e_al (n := ((144 * a) + (F127 b c h)).toNatClampNeg) (w := .int (gI h 418 (((144 * a) + (F127 b c h)).toNatClampNeg))) (pc' := 59) i161_58 rfl (x_alX (a := 20) (by decide) hn sh418 (by decide) g4) rfl rfl ?_
      refine e_ib (z := ((c + 2) - (c + 2) / 4 * 4) - (gI h 418 (((144 * a) + (F127 b c h)).toNatClampNeg))) (pc' := 60) i161_59 rfl rfl ?_
      refine e_cn (pc' := 62) i161_60 rfl ?_
      refine e_ib (z := (((c + 2) - (c + 2) / 4 * 4) - (gI h 418 (((144 * a) + (F127 b c h)).toNatClampNeg))) + 7) (pc' := 63) i161_62 rfl rfl ?_
      refine e_cn (pc' := 64) i161_63 rfl ?_
      refine e_ib (z := ((((c + 2) - (c + 2) / 4 * 4) - (gI h 418 (((144 * a) + (F127 b c h)).toNatClampNeg))) + 7) - ((((c + 2) - (c + 2) / 4 * 4) - (gI h 418 (((144 * a) + (F127 b c h)).toNatClampNeg))) + 7) / 4 * 4) (pc' := 65) i161_64 rfl (x_ib_rem (by decide)) ?_
      obtain ⟨g5, hP⟩ := hP
      refine e_cV (As := [.ref 397, .int a, .int b, .int (F127 b c h), .int ((c + 2) - (c + 2) / 4 * 4), .int (((((c + 2) - (c + 2) / 4 * 4) - (gI h 418 (((144 * a) + (F127 b c h)).toNatClampNeg))) + 7) - ((((c + 2) - (c + 2) / 4 * 4) - (gI h 418 (((144 * a) + (F127 b c h)).toNatClampNeg))) + 7) / 4 * 4)]) (rest := []) (pc' := 68) i161_65 rfl rfl rfl rfl (by show (Nat.beq (x_kd 159) 0 && x_is 397 _ (MC 159) 0) = true; rw [show x_kd 159 = 0 by decide +kernel, show MC 159 = 11 by decide +kernel, (x_isC (by decide) hn sh397)]; rfl) (m159 hn hL g5) ?_
      have hn6 : 444 ≤ (G159 a b (F127 b c h) ((c + 2) - (c + 2) / 4 * 4) (((((c + 2) - (c + 2) / 4 * 4) - (gI h 418 (((144 * a) + (F127 b c h)).toNatClampNeg))) + 7) - ((((c + 2) - (c + 2) / 4 * 4) - (gI h 418 (((144 * a) + (F127 b c h)).toNatClampNeg))) + 7) / 4 * 4) h).1 := by rw [n_G159]; exact hn
      have hL6 : LK (G159 a b (F127 b c h) ((c + 2) - (c + 2) / 4 * 4) (((((c + 2) - (c + 2) / 4 * 4) - (gI h 418 (((144 * a) + (F127 b c h)).toNatClampNeg))) + 7) - ((((c + 2) - (c + 2) / 4 * 4) - (gI h 418 (((144 * a) + (F127 b c h)).toNatClampNeg))) + 7) / 4 * 4) h) := by unfold LK; rw [r_G159]; exact hL
      refine e_cn (pc' := 69) i161_68 rfl ?_
      refine e_rt i161_69 rfl ?_
      exact ⟨by unfold F161; simp only [if_neg (show ¬ ((F127 b c h) = (-1)) from (of_decide_eq_false c1)), if_pos c3]; rfl, by unfold G161; simp only [if_neg (show ¬ ((F127 b c h) = (-1)) from (of_decide_eq_false c1)), if_pos c3]⟩
    · replace hP := hP.2 (show ¬ (F157 a (F127 b c h) d ((c + 2) - (c + 2) / 4 * 4) b h) = true by rw [c3]; decide)
      refine e_cn (pc' := 36) i161_35 rfl ?_
      refine e_rt i161_36 rfl ?_
      exact ⟨by unfold F161; simp only [if_neg (show ¬ ((F127 b c h) = (-1)) from (of_decide_eq_false c1)), if_neg (show ¬ (F157 a (F127 b c h) d ((c + 2) - (c + 2) / 4 * 4) b h) = true by rw [c3]; decide)]; rfl, by unfold G161; simp only [if_neg (show ¬ ((F127 b c h) = (-1)) from (of_decide_eq_false c1)), if_neg (show ¬ (F157 a (F127 b c h) d ((c + 2) - (c + 2) / 4 * 4) b h) = true by rw [c3]; decide)]⟩
/-- FloorTurnModel.lets(III)V -/
def G163 (a : Int32) (b : Int32) (c : Int32) (h : Hp) : Hp := if (gI h 405 b.toNatClampNeg) = 6 then (if (gI (sI h 414 (((144 * a) + b).toNatClampNeg) ((gI h 414 (((144 * a) + b).toNatClampNeg)) - 1)) 405 b.toNatClampNeg) = 4 then (sI (sI (sI (sI h 414 (((144 * a) + b).toNatClampNeg) ((gI h 414 (((144 * a) + b).toNatClampNeg)) - 1)) 419 (((144 * a) + b).toNatClampNeg) c) 432 b.toNatClampNeg ((gI (sI (sI h 414 (((144 * a) + b).toNatClampNeg) ((gI h 414 (((144 * a) + b).toNatClampNeg)) - 1)) 419 (((144 * a) + b).toNatClampNeg) c) 432 b.toNatClampNeg) + 1)) 397 36 1) else (sI (sI (sI (sI h 414 (((144 * a) + b).toNatClampNeg) ((gI h 414 (((144 * a) + b).toNatClampNeg)) - 1)) 419 (((144 * a) + b).toNatClampNeg) (gI (sI h 414 (((144 * a) + b).toNatClampNeg) ((gI h 414 (((144 * a) + b).toNatClampNeg)) - 1)) 419 (((144 * a) + b).toNatClampNeg))) 432 b.toNatClampNeg ((gI (sI (sI h 414 (((144 * a) + b).toNatClampNeg) ((gI h 414 (((144 * a) + b).toNatClampNeg)) - 1)) 419 (((144 * a) + b).toNatClampNeg) (gI (sI h 414 (((144 * a) + b).toNatClampNeg) ((gI h 414 (((144 * a) + b).toNatClampNeg)) - 1)) 419 (((144 * a) + b).toNatClampNeg))) 432 b.toNatClampNeg) + 1)) 397 36 1)) else (if (gI (sI h 412 (((144 * a) + b).toNatClampNeg) 0) 405 b.toNatClampNeg) = 4 then (sI (sI (sI (sI h 412 (((144 * a) + b).toNatClampNeg) 0) 419 (((144 * a) + b).toNatClampNeg) c) 432 b.toNatClampNeg ((gI (sI (sI h 412 (((144 * a) + b).toNatClampNeg) 0) 419 (((144 * a) + b).toNatClampNeg) c) 432 b.toNatClampNeg) + 1)) 397 36 1) else (sI (sI (sI (sI h 412 (((144 * a) + b).toNatClampNeg) 0) 419 (((144 * a) + b).toNatClampNeg) (gI (sI h 412 (((144 * a) + b).toNatClampNeg) 0) 419 (((144 * a) + b).toNatClampNeg))) 432 b.toNatClampNeg ((gI (sI (sI h 412 (((144 * a) + b).toNatClampNeg) 0) 419 (((144 * a) + b).toNatClampNeg) (gI (sI h 412 (((144 * a) + b).toNatClampNeg) 0) 419 (((144 * a) + b).toNatClampNeg))) 432 b.toNatClampNeg) + 1)) 397 36 1))
theorem n_G163 (a : Int32) (b : Int32) (c : Int32) (h : Hp) : (G163 a b c h).1 = h.1 := by
  unfold G163
  (repeat' split) <;> first | rfl | (simp only [n_sI, n_sL, n_sR])
theorem r_G163 (a : Int32) (b : Int32) (c : Int32) (h : Hp) : gR (G163 a b c h) = gR h := by
  unfold G163
  (repeat' split) <;> first | rfl | (simp only [gR_sI, gR_sL])
def P163 (a : Int32) (b : Int32) (c : Int32) (h : Hp) : Prop := (vp_in b 144) ∧ ((((gI h 405 b.toNatClampNeg) = 6) → ((vp_in ((144 * a) + b) 432) ∧ ((vp_in ((144 * a) + b) 432) ∧ ((vp_in b 144) ∧ ((((gI (sI h 414 (((144 * a) + b).toNatClampNeg) ((gI h 414 (((144 * a) + b).toNatClampNeg)) - 1)) 405 b.toNatClampNeg) = 4) → ((vp_in ((144 * a) + b) 432) ∧ ((vp_in b 144) ∧ ((vp_in b 144) ∧ (True))))) ∧ (¬ ((gI (sI h 414 (((144 * a) + b).toNatClampNeg) ((gI h 414 (((144 * a) + b).toNatClampNeg)) - 1)) 405 b.toNatClampNeg) = 4) → ((vp_in ((144 * a) + b) 432) ∧ ((vp_in ((144 * a) + b) 432) ∧ ((vp_in b 144) ∧ ((vp_in b 144) ∧ (True))))))))))) ∧ (¬ ((gI h 405 b.toNatClampNeg) = 6) → ((vp_in ((144 * a) + b) 432) ∧ ((vp_in b 144) ∧ ((((gI (sI h 412 (((144 * a) + b).toNatClampNeg) 0) 405 b.toNatClampNeg) = 4) → ((vp_in ((144 * a) + b) 432) ∧ ((vp_in b 144) ∧ ((vp_in b 144) ∧ (True))))) ∧ (¬ ((gI (sI h 412 (((144 * a) + b).toNatClampNeg) 0) 405 b.toNatClampNeg) = 4) → ((vp_in ((144 * a) + b) 432) ∧ ((vp_in ((144 * a) + b) 432) ∧ ((vp_in b 144) ∧ ((vp_in b 144) ∧ (True)))))))))))
set_option maxHeartbeats 8000000 in
theorem m163 {L : Nat} {xs : Nat → Int32} {h : Hp} {a : Int32} {b : Int32} {c : Int32} (hn : 444 ≤ h.1) (hL : LK h) (hP : P163 a b c h) : Sp L xs 163 [.ref 397, .int a, .int b, .int c] h none (G163 a b c h) := by
  unfold P163 at hP
  refine sp_of (ls := [some (.ref 397), some (.int a), some (.int b), some (.int c), none]) rfl ?_
  refine e_cn (pc' := 3) i163_0 rfl ?_
  refine e_ld (pc' := 4) i163_3 rfl rfl ?_
  refine e_ib (z := 144 * a) (pc' := 5) i163_4 rfl rfl ?_
  refine e_ld (pc' := 6) i163_5 rfl rfl ?_
  refine e_ib (z := (144 * a) + b) (pc' := 7) i163_6 rfl rfl ?_
  refine e_st (ls' := [some (.ref 397), some (.int a), some (.int b), some (.int c), some (.int ((144 * a) + b))]) (pc' := 9) i163_7 rfl rfl rfl ?_
  refine e_ld (pc' := 10) i163_9 rfl rfl ?_
  refine e_get (w := .ref 405) (pc' := 13) i163_10 rfl (x_isC (by decide) hn sh397) (x_fvR (by decide +kernel) (hL 397 8 405 lk397_8)) ?_
  refine e_ld (pc' := 14) i163_13 rfl rfl ?_
  obtain ⟨g1, hP⟩ := hP
  refine e_al (n := b.toNatClampNeg) (w := .int (gI h 405 b.toNatClampNeg)) (pc' := 15) i163_14 rfl (x_alX (a := 20) (by decide) hn sh405 (by decide) g1) rfl rfl ?_
  refine e_cn (pc' := 17) i163_15 rfl ?_
  refine e_ic (pc' := 20) i163_17 rfl (fun c2 => ?_) (fun c2 => ?_)
  · replace hP := hP.2 (of_decide_eq_true c2)
    refine e_ld (pc' := 35) i163_34 rfl rfl ?_
    refine e_get (w := .ref 412) (pc' := 38) i163_35 rfl (x_isC (by decide) hn sh397) (x_fvR (by decide +kernel) (hL 397 16 412 lk397_16)) ?_
    refine e_ld (pc' := 40) i163_38 rfl rfl ?_
    refine e_cn (pc' := 41) i163_40 rfl ?_
    obtain ⟨g3, hP⟩ := hP
    refine e_as (n := ((144 * a) + b).toNatClampNeg) (h' := sI h 412 (((144 * a) + b).toNatClampNeg) 0) (pc' := 42) i163_41 rfl (x_alX (a := 20) (by decide) hn sh412 (by decide) g3) rfl (by rw [show (SH 412).1 = 20 by rw [sh412]]; rfl) ?_
    have hn4 : 444 ≤ (sI h 412 (((144 * a) + b).toNatClampNeg) 0).1 := hn
    have hL4 : LK (sI h 412 (((144 * a) + b).toNatClampNeg) 0) := hL
    refine e_ld (pc' := 43) i163_42 rfl rfl ?_
    refine e_get (w := .ref 419) (pc' := 46) i163_43 rfl (x_isC (by decide) hn4 sh397) (x_fvR (by decide +kernel) (hL4 397 23 419 lk397_23)) ?_
    refine e_ld (pc' := 48) i163_46 rfl rfl ?_
    refine e_ld (pc' := 49) i163_48 rfl rfl ?_
    refine e_get (w := .ref 405) (pc' := 52) i163_49 rfl (x_isC (by decide) hn4 sh397) (x_fvR (by decide +kernel) (hL4 397 8 405 lk397_8)) ?_
    refine e_ld (pc' := 53) i163_52 rfl rfl ?_
    obtain ⟨g5, hP⟩ := hP
    refine e_al (n := b.toNatClampNeg) (w := .int (gI (sI h 412 (((144 * a) + b).toNatClampNeg) 0) 405 b.toNatClampNeg)) (pc' := 54) i163_53 rfl (x_alX (a := 20) (by decide) hn4 sh405 (by decide) g5) rfl rfl ?_
    refine e_cn (pc' := 55) i163_54 rfl ?_
    refine e_ic (pc' := 58) i163_55 rfl (fun c6 => ?_) (fun c6 => ?_)
    · replace hP := hP.2 (of_decide_eq_true c6)
      refine e_ld (pc' := 63) i163_62 rfl rfl ?_
      refine e_get (w := .ref 419) (pc' := 66) i163_63 rfl (x_isC (by decide) hn4 sh397) (x_fvR (by decide +kernel) (hL4 397 23 419 lk397_23)) ?_
      refine e_ld (pc' := 68) i163_66 rfl rfl ?_
      obtain ⟨g7, hP⟩ := hP
      refine e_al (n := ((144 * a) + b).toNatClampNeg) (w := .int (gI (sI h 412 (((144 * a) + b).toNatClampNeg) 0) 419 (((144 * a) + b).toNatClampNeg))) (pc' := 69) i163_68 rfl (x_alX (a := 20) (by decide) hn4 sh419 (by decide) g7) rfl rfl ?_
      obtain ⟨g8, hP⟩ := hP
      refine e_as (n := ((144 * a) + b).toNatClampNeg) (h' := sI (sI h 412 (((144 * a) + b).toNatClampNeg) 0) 419 (((144 * a) + b).toNatClampNeg) (gI (sI h 412 (((144 * a) + b).toNatClampNeg) 0) 419 (((144 * a) + b).toNatClampNeg))) (pc' := 70) i163_69 rfl (x_alX (a := 20) (by decide) hn4 sh419 (by decide) g8) rfl (by rw [show (SH 419).1 = 20 by rw [sh419]]; rfl) ?_
      have hn9 : 444 ≤ (sI (sI h 412 (((144 * a) + b).toNatClampNeg) 0) 419 (((144 * a) + b).toNatClampNeg) (gI (sI h 412 (((144 * a) + b).toNatClampNeg) 0) 419 (((144 * a) + b).toNatClampNeg))).1 := hn4
      have hL9 : LK (sI (sI h 412 (((144 * a) + b).toNatClampNeg) 0) 419 (((144 * a) + b).toNatClampNeg) (gI (sI h 412 (((144 * a) + b).toNatClampNeg) 0) 419 (((144 * a) + b).toNatClampNeg))) := hL4
      refine e_ld (pc' := 71) i163_70 rfl rfl ?_
      refine e_get (w := .ref 432) (pc' := 74) i163_71 rfl (x_isC (by decide) hn9 sh397) (x_fvR (by decide +kernel) (hL9 397 38 432 lk397_38)) ?_
      refine e_ld (pc' := 75) i163_74 rfl rfl ?_
      refine e_stk (pc' := 76) i163_75 rfl rfl ?_
      obtain ⟨g10, hP⟩ := hP
      refine e_al (n := b.toNatClampNeg) (w := .int (gI (sI (sI h 412 (((144 * a) + b).toNatClampNeg) 0) 419 (((144 * a) + b).toNatClampNeg) (gI (sI h 412 (((144 * a) + b).toNatClampNeg) 0) 419 (((144 * a) + b).toNatClampNeg))) 432 b.toNatClampNeg)) (pc' := 77) i163_76 rfl (x_alX (a := 20) (by decide) hn9 sh432 (by decide) g10) rfl rfl ?_
      refine e_cn (pc' := 78) i163_77 rfl ?_
      refine e_ib (z := (gI (sI (sI h 412 (((144 * a) + b).toNatClampNeg) 0) 419 (((144 * a) + b).toNatClampNeg) (gI (sI h 412 (((144 * a) + b).toNatClampNeg) 0) 419 (((144 * a) + b).toNatClampNeg))) 432 b.toNatClampNeg) + 1) (pc' := 79) i163_78 rfl rfl ?_
      obtain ⟨g11, hP⟩ := hP
      refine e_as (n := b.toNatClampNeg) (h' := sI (sI (sI h 412 (((144 * a) + b).toNatClampNeg) 0) 419 (((144 * a) + b).toNatClampNeg) (gI (sI h 412 (((144 * a) + b).toNatClampNeg) 0) 419 (((144 * a) + b).toNatClampNeg))) 432 b.toNatClampNeg ((gI (sI (sI h 412 (((144 * a) + b).toNatClampNeg) 0) 419 (((144 * a) + b).toNatClampNeg) (gI (sI h 412 (((144 * a) + b).toNatClampNeg) 0) 419 (((144 * a) + b).toNatClampNeg))) 432 b.toNatClampNeg) + 1)) (pc' := 80) i163_79 rfl (x_alX (a := 20) (by decide) hn9 sh432 (by decide) g11) rfl (by rw [show (SH 432).1 = 20 by rw [sh432]]; rfl) ?_
      have hn12 : 444 ≤ (sI (sI (sI h 412 (((144 * a) + b).toNatClampNeg) 0) 419 (((144 * a) + b).toNatClampNeg) (gI (sI h 412 (((144 * a) + b).toNatClampNeg) 0) 419 (((144 * a) + b).toNatClampNeg))) 432 b.toNatClampNeg ((gI (sI (sI h 412 (((144 * a) + b).toNatClampNeg) 0) 419 (((144 * a) + b).toNatClampNeg) (gI (sI h 412 (((144 * a) + b).toNatClampNeg) 0) 419 (((144 * a) + b).toNatClampNeg))) 432 b.toNatClampNeg) + 1)).1 := hn9
      have hL12 : LK (sI (sI (sI h 412 (((144 * a) + b).toNatClampNeg) 0) 419 (((144 * a) + b).toNatClampNeg) (gI (sI h 412 (((144 * a) + b).toNatClampNeg) 0) 419 (((144 * a) + b).toNatClampNeg))) 432 b.toNatClampNeg ((gI (sI (sI h 412 (((144 * a) + b).toNatClampNeg) 0) 419 (((144 * a) + b).toNatClampNeg) (gI (sI h 412 (((144 * a) + b).toNatClampNeg) 0) 419 (((144 * a) + b).toNatClampNeg))) 432 b.toNatClampNeg) + 1)) := hL9
      refine e_ld (pc' := 81) i163_80 rfl rfl ?_
      refine e_cn (pc' := 82) i163_81 rfl ?_
      refine e_put (h' := sI (sI (sI (sI h 412 (((144 * a) + b).toNatClampNeg) 0) 419 (((144 * a) + b).toNatClampNeg) (gI (sI h 412 (((144 * a) + b).toNatClampNeg) 0) 419 (((144 * a) + b).toNatClampNeg))) 432 b.toNatClampNeg ((gI (sI (sI h 412 (((144 * a) + b).toNatClampNeg) 0) 419 (((144 * a) + b).toNatClampNeg) (gI (sI h 412 (((144 * a) + b).toNatClampNeg) 0) 419 (((144 * a) + b).toNatClampNeg))) 432 b.toNatClampNeg) + 1)) 397 36 1) (pc' := 85) i163_82 rfl (x_isC (by decide) hn12 sh397) rfl ?_
      have hn13 : 444 ≤ (sI (sI (sI (sI h 412 (((144 * a) + b).toNatClampNeg) 0) 419 (((144 * a) + b).toNatClampNeg) (gI (sI h 412 (((144 * a) + b).toNatClampNeg) 0) 419 (((144 * a) + b).toNatClampNeg))) 432 b.toNatClampNeg ((gI (sI (sI h 412 (((144 * a) + b).toNatClampNeg) 0) 419 (((144 * a) + b).toNatClampNeg) (gI (sI h 412 (((144 * a) + b).toNatClampNeg) 0) 419 (((144 * a) + b).toNatClampNeg))) 432 b.toNatClampNeg) + 1)) 397 36 1).1 := hn12
      have hL13 : LK (sI (sI (sI (sI h 412 (((144 * a) + b).toNatClampNeg) 0) 419 (((144 * a) + b).toNatClampNeg) (gI (sI h 412 (((144 * a) + b).toNatClampNeg) 0) 419 (((144 * a) + b).toNatClampNeg))) 432 b.toNatClampNeg ((gI (sI (sI h 412 (((144 * a) + b).toNatClampNeg) 0) 419 (((144 * a) + b).toNatClampNeg) (gI (sI h 412 (((144 * a) + b).toNatClampNeg) 0) 419 (((144 * a) + b).toNatClampNeg))) 432 b.toNatClampNeg) + 1)) 397 36 1) := hL12
      refine e_rt i163_85 rfl ?_
      exact ⟨rfl, by unfold G163; simp only [if_neg (show ¬ ((gI h 405 b.toNatClampNeg) = 6) from (of_decide_eq_true c2)), if_neg (show ¬ ((gI (sI h 412 (((144 * a) + b).toNatClampNeg) 0) 405 b.toNatClampNeg) = 4) from (of_decide_eq_true c6))]⟩
    · replace hP := hP.1 (Decidable.not_not.mp (of_decide_eq_false c6))
      refine e_ld (pc' := 59) i163_58 rfl rfl ?_
      refine e_go i163_59 ?_
      obtain ⟨g14, hP⟩ := hP
      refine e_as (n := ((144 * a) + b).toNatClampNeg) (h' := sI (sI h 412 (((144 * a) + b).toNatClampNeg) 0) 419 (((144 * a) + b).toNatClampNeg) c) (pc' := 70) i163_69 rfl (x_alX (a := 20) (by decide) hn4 sh419 (by decide) g14) rfl (by rw [show (SH 419).1 = 20 by rw [sh419]]; rfl) ?_
      have hn15 : 444 ≤ (sI (sI h 412 (((144 * a) + b).toNatClampNeg) 0) 419 (((144 * a) + b).toNatClampNeg) c).1 := hn4
      have hL15 : LK (sI (sI h 412 (((144 * a) + b).toNatClampNeg) 0) 419 (((144 * a) + b).toNatClampNeg) c) := hL4
      refine e_ld (pc' := 71) i163_70 rfl rfl ?_
      refine e_get (w := .ref 432) (pc' := 74) i163_71 rfl (x_isC (by decide) hn15 sh397) (x_fvR (by decide +kernel) (hL15 397 38 432 lk397_38)) ?_
      refine e_ld (pc' := 75) i163_74 rfl rfl ?_
      refine e_stk (pc' := 76) i163_75 rfl rfl ?_
      obtain ⟨g16, hP⟩ := hP
      refine e_al (n := b.toNatClampNeg) (w := .int (gI (sI (sI h 412 (((144 * a) + b).toNatClampNeg) 0) 419 (((144 * a) + b).toNatClampNeg) c) 432 b.toNatClampNeg)) (pc' := 77) i163_76 rfl (x_alX (a := 20) (by decide) hn15 sh432 (by decide) g16) rfl rfl ?_
      refine e_cn (pc' := 78) i163_77 rfl ?_
      refine e_ib (z := (gI (sI (sI h 412 (((144 * a) + b).toNatClampNeg) 0) 419 (((144 * a) + b).toNatClampNeg) c) 432 b.toNatClampNeg) + 1) (pc' := 79) i163_78 rfl rfl ?_
      obtain ⟨g17, hP⟩ := hP
      refine e_as (n := b.toNatClampNeg) (h' := sI (sI (sI h 412 (((144 * a) + b).toNatClampNeg) 0) 419 (((144 * a) + b).toNatClampNeg) c) 432 b.toNatClampNeg ((gI (sI (sI h 412 (((144 * a) + b).toNatClampNeg) 0) 419 (((144 * a) + b).toNatClampNeg) c) 432 b.toNatClampNeg) + 1)) (pc' := 80) i163_79 rfl (x_alX (a := 20) (by decide) hn15 sh432 (by decide) g17) rfl (by rw [show (SH 432).1 = 20 by rw [sh432]]; rfl) ?_
      have hn18 : 444 ≤ (sI (sI (sI h 412 (((144 * a) + b).toNatClampNeg) 0) 419 (((144 * a) + b).toNatClampNeg) c) 432 b.toNatClampNeg ((gI (sI (sI h 412 (((144 * a) + b).toNatClampNeg) 0) 419 (((144 * a) + b).toNatClampNeg) c) 432 b.toNatClampNeg) + 1)).1 := hn15
      have hL18 : LK (sI (sI (sI h 412 (((144 * a) + b).toNatClampNeg) 0) 419 (((144 * a) + b).toNatClampNeg) c) 432 b.toNatClampNeg ((gI (sI (sI h 412 (((144 * a) + b).toNatClampNeg) 0) 419 (((144 * a) + b).toNatClampNeg) c) 432 b.toNatClampNeg) + 1)) := hL15
      refine e_ld (pc' := 81) i163_80 rfl rfl ?_
      refine e_cn (pc' := 82) i163_81 rfl ?_
      refine e_put (h' := sI (sI (sI (sI h 412 (((144 * a) + b).toNatClampNeg) 0) 419 (((144 * a) + b).toNatClampNeg) c) 432 b.toNatClampNeg ((gI (sI (sI h 412 (((144 * a) + b).toNatClampNeg) 0) 419 (((144 * a) + b).toNatClampNeg) c) 432 b.toNatClampNeg) + 1)) 397 36 1) (pc' := 85) i163_82 rfl (x_isC (by decide) hn18 sh397) rfl ?_
      have hn19 : 444 ≤ (sI (sI (sI (sI h 412 (((144 * a) + b).toNatClampNeg) 0) 419 (((144 * a) + b).toNatClampNeg) c) 432 b.toNatClampNeg ((gI (sI (sI h 412 (((144 * a) + b).toNatClampNeg) 0) 419 (((144 * a) + b).toNatClampNeg) c) 432 b.toNatClampNeg) + 1)) 397 36 1).1 := hn18
      have hL19 : LK (sI (sI (sI (sI h 412 (((144 * a) + b).toNatClampNeg) 0) 419 (((144 * a) + b).toNatClampNeg) c) 432 b.toNatClampNeg ((gI (sI (sI h 412 (((144 * a) + b).toNatClampNeg) 0) 419 (((144 * a) + b).toNatClampNeg) c) 432 b.toNatClampNeg) + 1)) 397 36 1) := hL18
      refine e_rt i163_85 rfl ?_
      exact ⟨rfl, by unfold G163; simp only [if_neg (show ¬ ((gI h 405 b.toNatClampNeg) = 6) from (of_decide_eq_true c2)), if_pos (show (gI (sI h 412 (((144 * a) + b).toNatClampNeg) 0) 405 b.toNatClampNeg) = 4 from (Decidable.not_not.mp (of_decide_eq_false c6)))]⟩
  · replace hP := hP.1 (Decidable.not_not.mp (of_decide_eq_false c2))
    refine e_ld (pc' := 21) i163_20 rfl rfl ?_
    refine e_get (w := .ref 414) (pc' := 24) i163_21 rfl (x_isC (by decide) hn sh397) (x_fvR (by decide +kernel) (hL 397 18 414 lk397_18)) ?_
    refine e_ld (pc' := 26) i163_24 rfl rfl ?_
    refine e_stk (pc' := 27) i163_26 rfl rfl ?_
    obtain ⟨g20, hP⟩ := hP
    refine e_al (n := ((144 * a) + b).toNatClampNeg) (w := .int (gI h 414 (((144 * a) + b).toNatClampNeg))) (pc' := 28) i163_27 rfl (x_alX (a := 20) (by decide) hn sh414 (by decide) g20) rfl rfl ?_
    refine e_cn (pc' := 29) i163_28 rfl ?_
    refine e_ib (z := (gI h 414 (((144 * a) + b).toNatClampNeg)) - 1) (pc' := 30) i163_29 rfl rfl ?_
    obtain ⟨g21, hP⟩ := hP
    refine e_as (n := ((144 * a) + b).toNatClampNeg) (h' := sI h 414 (((144 * a) + b).toNatClampNeg) ((gI h 414 (((144 * a) + b).toNatClampNeg)) - 1)) (pc' := 31) i163_30 rfl (x_alX (a := 20) (by decide) hn sh414 (by decide) g21) rfl (by rw [show (SH 414).1 = 20 by rw [sh414]]; rfl) ?_
    have hn22 : 444 ≤ (sI h 414 (((144 * a) + b).toNatClampNeg) ((gI h 414 (((144 * a) + b).toNatClampNeg)) - 1)).1 := hn
    have hL22 : LK (sI h 414 (((144 * a) + b).toNatClampNeg) ((gI h 414 (((144 * a) + b).toNatClampNeg)) - 1)) := hL
    refine e_go i163_31 ?_
    refine e_ld (pc' := 43) i163_42 rfl rfl ?_
    refine e_get (w := .ref 419) (pc' := 46) i163_43 rfl (x_isC (by decide) hn22 sh397) (x_fvR (by decide +kernel) (hL22 397 23 419 lk397_23)) ?_
    refine e_ld (pc' := 48) i163_46 rfl rfl ?_
    refine e_ld (pc' := 49) i163_48 rfl rfl ?_
    refine e_get (w := .ref 405) (pc' := 52) i163_49 rfl (x_isC (by decide) hn22 sh397) (x_fvR (by decide +kernel) (hL22 397 8 405 lk397_8)) ?_
    refine e_ld (pc' := 53) i163_52 rfl rfl ?_
    obtain ⟨g23, hP⟩ := hP
    refine e_al (n := b.toNatClampNeg) (w := .int (gI (sI h 414 (((144 * a) + b).toNatClampNeg) ((gI h 414 (((144 * a) + b).toNatClampNeg)) - 1)) 405 b.toNatClampNeg)) (pc' := 54) i163_53 rfl (x_alX (a := 20) (by decide) hn22 sh405 (by decide) g23) rfl rfl ?_
    refine e_cn (pc' := 55) i163_54 rfl ?_
    refine e_ic (pc' := 58) i163_55 rfl (fun c24 => ?_) (fun c24 => ?_)
    · replace hP := hP.2 (of_decide_eq_true c24)
      refine e_ld (pc' := 63) i163_62 rfl rfl ?_
      refine e_get (w := .ref 419) (pc' := 66) i163_63 rfl (x_isC (by decide) hn22 sh397) (x_fvR (by decide +kernel) (hL22 397 23 419 lk397_23)) ?_
      refine e_ld (pc' := 68) i163_66 rfl rfl ?_
      obtain ⟨g25, hP⟩ := hP
      refine e_al (n := ((144 * a) + b).toNatClampNeg) (w := .int (gI (sI h 414 (((144 * a) + b).toNatClampNeg) ((gI h 414 (((144 * a) + b).toNatClampNeg)) - 1)) 419 (((144 * a) + b).toNatClampNeg))) (pc' := 69) i163_68 rfl (x_alX (a := 20) (by decide) hn22 sh419 (by decide) g25) rfl rfl ?_
      obtain ⟨g26, hP⟩ := hP
      refine e_as (n := ((144 * a) + b).toNatClampNeg) (h' := sI (sI h 414 (((144 * a) + b).toNatClampNeg) ((gI h 414 (((144 * a) + b).toNatClampNeg)) - 1)) 419 (((144 * a) + b).toNatClampNeg) (gI (sI h 414 (((144 * a) + b).toNatClampNeg) ((gI h 414 (((144 * a) + b).toNatClampNeg)) - 1)) 419 (((144 * a) + b).toNatClampNeg))) (pc' := 70) i163_69 rfl (x_alX (a := 20) (by decide) hn22 sh419 (by decide) g26) rfl (by rw [show (SH 419).1 = 20 by rw [sh419]]; rfl) ?_
      have hn27 : 444 ≤ (sI (sI h 414 (((144 * a) + b).toNatClampNeg) ((gI h 414 (((144 * a) + b).toNatClampNeg)) - 1)) 419 (((144 * a) + b).toNatClampNeg) (gI (sI h 414 (((144 * a) + b).toNatClampNeg) ((gI h 414 (((144 * a) + b).toNatClampNeg)) - 1)) 419 (((144 * a) + b).toNatClampNeg))).1 := hn22
      have hL27 : LK (sI (sI h 414 (((144 * a) + b).toNatClampNeg) ((gI h 414 (((144 * a) + b).toNatClampNeg)) - 1)) 419 (((144 * a) + b).toNatClampNeg) (gI (sI h 414 (((144 * a) + b).toNatClampNeg) ((gI h 414 (((144 * a) + b).toNatClampNeg)) - 1)) 419 (((144 * a) + b).toNatClampNeg))) := hL22
      refine e_ld (pc' := 71) i163_70 rfl rfl ?_
      refine e_get (w := .ref 432) (pc' := 74) i163_71 rfl (x_isC (by decide) hn27 sh397) (x_fvR (by decide +kernel) (hL27 397 38 432 lk397_38)) ?_
      refine e_ld (pc' := 75) i163_74 rfl rfl ?_
      refine e_stk (pc' := 76) i163_75 rfl rfl ?_
      obtain ⟨g28, hP⟩ := hP
      refine e_al (n := b.toNatClampNeg) (w := .int (gI (sI (sI h 414 (((144 * a) + b).toNatClampNeg) ((gI h 414 (((144 * a) + b).toNatClampNeg)) - 1)) 419 (((144 * a) + b).toNatClampNeg) (gI (sI h 414 (((144 * a) + b).toNatClampNeg) ((gI h 414 (((144 * a) + b).toNatClampNeg)) - 1)) 419 (((144 * a) + b).toNatClampNeg))) 432 b.toNatClampNeg)) (pc' := 77) i163_76 rfl (x_alX (a := 20) (by decide) hn27 sh432 (by decide) g28) rfl rfl ?_
      refine e_cn (pc' := 78) i163_77 rfl ?_
      refine e_ib (z := (gI (sI (sI h 414 (((144 * a) + b).toNatClampNeg) ((gI h 414 (((144 * a) + b).toNatClampNeg)) - 1)) 419 (((144 * a) + b).toNatClampNeg) (gI (sI h 414 (((144 * a) + b).toNatClampNeg) ((gI h 414 (((144 * a) + b).toNatClampNeg)) - 1)) 419 (((144 * a) + b).toNatClampNeg))) 432 b.toNatClampNeg) + 1) (pc' := 79) i163_78 rfl rfl ?_
      obtain ⟨g29, hP⟩ := hP
      refine e_as (n := b.toNatClampNeg) (h' := sI (sI (sI h 414 (((144 * a) + b).toNatClampNeg) ((gI h 414 (((144 * a) + b).toNatClampNeg)) - 1)) 419 (((144 * a) + b).toNatClampNeg) (gI (sI h 414 (((144 * a) + b).toNatClampNeg) ((gI h 414 (((144 * a) + b).toNatClampNeg)) - 1)) 419 (((144 * a) + b).toNatClampNeg))) 432 b.toNatClampNeg ((gI (sI (sI h 414 (((144 * a) + b).toNatClampNeg) ((gI h 414 (((144 * a) + b).toNatClampNeg)) - 1)) 419 (((144 * a) + b).toNatClampNeg) (gI (sI h 414 (((144 * a) + b).toNatClampNeg) ((gI h 414 (((144 * a) + b).toNatClampNeg)) - 1)) 419 (((144 * a) + b).toNatClampNeg))) 432 b.toNatClampNeg) + 1)) (pc' := 80) i163_79 rfl (x_alX (a := 20) (by decide) hn27 sh432 (by decide) g29) rfl (by rw [show (SH 432).1 = 20 by rw [sh432]]; rfl) ?_
      have hn30 : 444 ≤ (sI (sI (sI h 414 (((144 * a) + b).toNatClampNeg) ((gI h 414 (((144 * a) + b).toNatClampNeg)) - 1)) 419 (((144 * a) + b).toNatClampNeg) (gI (sI h 414 (((144 * a) + b).toNatClampNeg) ((gI h 414 (((144 * a) + b).toNatClampNeg)) - 1)) 419 (((144 * a) + b).toNatClampNeg))) 432 b.toNatClampNeg ((gI (sI (sI h 414 (((144 * a) + b).toNatClampNeg) ((gI h 414 (((144 * a) + b).toNatClampNeg)) - 1)) 419 (((144 * a) + b).toNatClampNeg) (gI (sI h 414 (((144 * a) + b).toNatClampNeg) ((gI h 414 (((144 * a) + b).toNatClampNeg)) - 1)) 419 (((144 * a) + b).toNatClampNeg))) 432 b.toNatClampNeg) + 1)).1 := hn27
      have hL30 : LK (sI (sI (sI h 414 (((144 * a) + b).toNatClampNeg) ((gI h 414 (((144 * a) + b).toNatClampNeg)) - 1)) 419 (((144 * a) + b).toNatClampNeg) (gI (sI h 414 (((144 * a) + b).toNatClampNeg) ((gI h 414 (((144 * a) + b).toNatClampNeg)) - 1)) 419 (((144 * a) + b).toNatClampNeg))) 432 b.toNatClampNeg ((gI (sI (sI h 414 (((144 * a) + b).toNatClampNeg) ((gI h 414 (((144 * a) + b).toNatClampNeg)) - 1)) 419 (((144 * a) + b).toNatClampNeg) (gI (sI h 414 (((144 * a) + b).toNatClampNeg) ((gI h 414 (((144 * a) + b).toNatClampNeg)) - 1)) 419 (((144 * a) + b).toNatClampNeg))) 432 b.toNatClampNeg) + 1)) := hL27
      refine e_ld (pc' := 81) i163_80 rfl rfl ?_
      refine e_cn (pc' := 82) i163_81 rfl ?_
      refine e_put (h' := sI (sI (sI (sI h 414 (((144 * a) + b).toNatClampNeg) ((gI h 414 (((144 * a) + b).toNatClampNeg)) - 1)) 419 (((144 * a) + b).toNatClampNeg) (gI (sI h 414 (((144 * a) + b).toNatClampNeg) ((gI h 414 (((144 * a) + b).toNatClampNeg)) - 1)) 419 (((144 * a) + b).toNatClampNeg))) 432 b.toNatClampNeg ((gI (sI (sI h 414 (((144 * a) + b).toNatClampNeg) ((gI h 414 (((144 * a) + b).toNatClampNeg)) - 1)) 419 (((144 * a) + b).toNatClampNeg) (gI (sI h 414 (((144 * a) + b).toNatClampNeg) ((gI h 414 (((144 * a) + b).toNatClampNeg)) - 1)) 419 (((144 * a) + b).toNatClampNeg))) 432 b.toNatClampNeg) + 1)) 397 36 1) (pc' := 85) i163_82 rfl (x_isC (by decide) hn30 sh397) rfl ?_
      have hn31 : 444 ≤ (sI (sI (sI (sI h 414 (((144 * a) + b).toNatClampNeg) ((gI h 414 (((144 * a) + b).toNatClampNeg)) - 1)) 419 (((144 * a) + b).toNatClampNeg) (gI (sI h 414 (((144 * a) + b).toNatClampNeg) ((gI h 414 (((144 * a) + b).toNatClampNeg)) - 1)) 419 (((144 * a) + b).toNatClampNeg))) 432 b.toNatClampNeg ((gI (sI (sI h 414 (((144 * a) + b).toNatClampNeg) ((gI h 414 (((144 * a) + b).toNatClampNeg)) - 1)) 419 (((144 * a) + b).toNatClampNeg) (gI (sI h 414 (((144 * a) + b).toNatClampNeg) ((gI h 414 (((144 * a) + b).toNatClampNeg)) - 1)) 419 (((144 * a) + b).toNatClampNeg))) 432 b.toNatClampNeg) + 1)) 397 36 1).1 := hn30
      have hL31 : LK (sI (sI (sI (sI h 414 (((144 * a) + b).toNatClampNeg) ((gI h 414 (((144 * a) + b).toNatClampNeg)) - 1)) 419 (((144 * a) + b).toNatClampNeg) (gI (sI h 414 (((144 * a) + b).toNatClampNeg) ((gI h 414 (((144 * a) + b).toNatClampNeg)) - 1)) 419 (((144 * a) + b).toNatClampNeg))) 432 b.toNatClampNeg ((gI (sI (sI h 414 (((144 * a) + b).toNatClampNeg) ((gI h 414 (((144 * a) + b).toNatClampNeg)) - 1)) 419 (((144 * a) + b).toNatClampNeg) (gI (sI h 414 (((144 * a) + b).toNatClampNeg) ((gI h 414 (((144 * a) + b).toNatClampNeg)) - 1)) 419 (((144 * a) + b).toNatClampNeg))) 432 b.toNatClampNeg) + 1)) 397 36 1) := hL30
      refine e_rt i163_85 rfl ?_
      exact ⟨rfl, by unfold G163; simp only [if_pos (show (gI h 405 b.toNatClampNeg) = 6 from (Decidable.not_not.mp (of_decide_eq_false c2))), if_neg (show ¬ ((gI (sI h 414 (((144 * a) + b).toNatClampNeg) ((gI h 414 (((144 * a) + b).toNatClampNeg)) - 1)) 405 b.toNatClampNeg) = 4) from (of_decide_eq_true c24))]⟩
    · replace hP := hP.1 (Decidable.not_not.mp (of_decide_eq_false c24))
      refine e_ld (pc' := 59) i163_58 rfl rfl ?_
      refine e_go i163_59 ?_
      obtain ⟨g32, hP⟩ := hP
      refine e_as (n := ((144 * a) + b).toNatClampNeg) (h' := sI (sI h 414 (((144 * a) + b).toNatClampNeg) ((gI h 414 (((144 * a) + b).toNatClampNeg)) - 1)) 419 (((144 * a) + b).toNatClampNeg) c) (pc' := 70) i163_69 rfl (x_alX (a := 20) (by decide) hn22 sh419 (by decide) g32) rfl (by rw [show (SH 419).1 = 20 by rw [sh419]]; rfl) ?_
      have hn33 : 444 ≤ (sI (sI h 414 (((144 * a) + b).toNatClampNeg) ((gI h 414 (((144 * a) + b).toNatClampNeg)) - 1)) 419 (((144 * a) + b).toNatClampNeg) c).1 := hn22
      have hL33 : LK (sI (sI h 414 (((144 * a) + b).toNatClampNeg) ((gI h 414 (((144 * a) + b).toNatClampNeg)) - 1)) 419 (((144 * a) + b).toNatClampNeg) c) := hL22
      refine e_ld (pc' := 71) i163_70 rfl rfl ?_
      refine e_get (w := .ref 432) (pc' := 74) i163_71 rfl (x_isC (by decide) hn33 sh397) (x_fvR (by decide +kernel) (hL33 397 38 432 lk397_38)) ?_
      refine e_ld (pc' := 75) i163_74 rfl rfl ?_
      refine e_stk (pc' := 76) i163_75 rfl rfl ?_
      obtain ⟨g34, hP⟩ := hP
      refine e_al (n := b.toNatClampNeg) (w := .int (gI (sI (sI h 414 (((144 * a) + b).toNatClampNeg) ((gI h 414 (((144 * a) + b).toNatClampNeg)) - 1)) 419 (((144 * a) + b).toNatClampNeg) c) 432 b.toNatClampNeg)) (pc' := 77) i163_76 rfl (x_alX (a := 20) (by decide) hn33 sh432 (by decide) g34) rfl rfl ?_
      refine e_cn (pc' := 78) i163_77 rfl ?_
      refine e_ib (z := (gI (sI (sI h 414 (((144 * a) + b).toNatClampNeg) ((gI h 414 (((144 * a) + b).toNatClampNeg)) - 1)) 419 (((144 * a) + b).toNatClampNeg) c) 432 b.toNatClampNeg) + 1) (pc' := 79) i163_78 rfl rfl ?_
      obtain ⟨g35, hP⟩ := hP
      refine e_as (n := b.toNatClampNeg) (h' := sI (sI (sI h 414 (((144 * a) + b).toNatClampNeg) ((gI h 414 (((144 * a) + b).toNatClampNeg)) - 1)) 419 (((144 * a) + b).toNatClampNeg) c) 432 b.toNatClampNeg ((gI (sI (sI h 414 (((144 * a) + b).toNatClampNeg) ((gI h 414 (((144 * a) + b).toNatClampNeg)) - 1)) 419 (((144 * a) + b).toNatClampNeg) c) 432 b.toNatClampNeg) + 1)) (pc' := 80) i163_79 rfl (x_alX (a := 20) (by decide) hn33 sh432 (by decide) g35) rfl (by rw [show (SH 432).1 = 20 by rw [sh432]]; rfl) ?_
      have hn36 : 444 ≤ (sI (sI (sI h 414 (((144 * a) + b).toNatClampNeg) ((gI h 414 (((144 * a) + b).toNatClampNeg)) - 1)) 419 (((144 * a) + b).toNatClampNeg) c) 432 b.toNatClampNeg ((gI (sI (sI h 414 (((144 * a) + b).toNatClampNeg) ((gI h 414 (((144 * a) + b).toNatClampNeg)) - 1)) 419 (((144 * a) + b).toNatClampNeg) c) 432 b.toNatClampNeg) + 1)).1 := hn33
      have hL36 : LK (sI (sI (sI h 414 (((144 * a) + b).toNatClampNeg) ((gI h 414 (((144 * a) + b).toNatClampNeg)) - 1)) 419 (((144 * a) + b).toNatClampNeg) c) 432 b.toNatClampNeg ((gI (sI (sI h 414 (((144 * a) + b).toNatClampNeg) ((gI h 414 (((144 * a) + b).toNatClampNeg)) - 1)) 419 (((144 * a) + b).toNatClampNeg) c) 432 b.toNatClampNeg) + 1)) := hL33
      refine e_ld (pc' := 81) i163_80 rfl rfl ?_
      refine e_cn (pc' := 82) i163_81 rfl ?_
      refine e_put (h' := sI (sI (sI (sI h 414 (((144 * a) + b).toNatClampNeg) ((gI h 414 (((144 * a) + b).toNatClampNeg)) - 1)) 419 (((144 * a) + b).toNatClampNeg) c) 432 b.toNatClampNeg ((gI (sI (sI h 414 (((144 * a) + b).toNatClampNeg) ((gI h 414 (((144 * a) + b).toNatClampNeg)) - 1)) 419 (((144 * a) + b).toNatClampNeg) c) 432 b.toNatClampNeg) + 1)) 397 36 1) (pc' := 85) i163_82 rfl (x_isC (by decide) hn36 sh397) rfl ?_
      have hn37 : 444 ≤ (sI (sI (sI (sI h 414 (((144 * a) + b).toNatClampNeg) ((gI h 414 (((144 * a) + b).toNatClampNeg)) - 1)) 419 (((144 * a) + b).toNatClampNeg) c) 432 b.toNatClampNeg ((gI (sI (sI h 414 (((144 * a) + b).toNatClampNeg) ((gI h 414 (((144 * a) + b).toNatClampNeg)) - 1)) 419 (((144 * a) + b).toNatClampNeg) c) 432 b.toNatClampNeg) + 1)) 397 36 1).1 := hn36
      have hL37 : LK (sI (sI (sI (sI h 414 (((144 * a) + b).toNatClampNeg) ((gI h 414 (((144 * a) + b).toNatClampNeg)) - 1)) 419 (((144 * a) + b).toNatClampNeg) c) 432 b.toNatClampNeg ((gI (sI (sI h 414 (((144 * a) + b).toNatClampNeg) ((gI h 414 (((144 * a) + b).toNatClampNeg)) - 1)) 419 (((144 * a) + b).toNatClampNeg) c) 432 b.toNatClampNeg) + 1)) 397 36 1) := hL36
      refine e_rt i163_85 rfl ?_
      exact ⟨rfl, by unfold G163; simp only [if_pos (show (gI h 405 b.toNatClampNeg) = 6 from (Decidable.not_not.mp (of_decide_eq_false c2))), if_pos (show (gI (sI h 414 (((144 * a) + b).toNatClampNeg) ((gI h 414 (((144 * a) + b).toNatClampNeg)) - 1)) 405 b.toNatClampNeg) = 4 from (Decidable.not_not.mp (of_decide_eq_false c24)))]⟩
/-- FloorTurnModel.gets(III)V -/
def G164 (a : Int32) (b : Int32) (c : Int32) (h : Hp) : Hp := if (gI (sI (sI h 418 (((144 * a) + b).toNatClampNeg) (gI h 429 b.toNatClampNeg)) 431 b.toNatClampNeg ((gI (sI h 418 (((144 * a) + b).toNatClampNeg) (gI h 429 b.toNatClampNeg)) 431 b.toNatClampNeg) + 1)) 405 b.toNatClampNeg) = 7 then (if a = 0 then (sI (sI (sI (sI h 418 (((144 * a) + b).toNatClampNeg) (gI h 429 b.toNatClampNeg)) 431 b.toNatClampNeg ((gI (sI h 418 (((144 * a) + b).toNatClampNeg) (gI h 429 b.toNatClampNeg)) 431 b.toNatClampNeg) + 1)) 397 35 ((gI (sI (sI h 418 (((144 * a) + b).toNatClampNeg) (gI h 429 b.toNatClampNeg)) 431 b.toNatClampNeg ((gI (sI h 418 (((144 * a) + b).toNatClampNeg) (gI h 429 b.toNatClampNeg)) 431 b.toNatClampNeg) + 1)) 397 35) + 1)) 411 c.toNatClampNeg ((gI (sI (sI (sI h 418 (((144 * a) + b).toNatClampNeg) (gI h 429 b.toNatClampNeg)) 431 b.toNatClampNeg ((gI (sI h 418 (((144 * a) + b).toNatClampNeg) (gI h 429 b.toNatClampNeg)) 431 b.toNatClampNeg) + 1)) 397 35 ((gI (sI (sI h 418 (((144 * a) + b).toNatClampNeg) (gI h 429 b.toNatClampNeg)) 431 b.toNatClampNeg ((gI (sI h 418 (((144 * a) + b).toNatClampNeg) (gI h 429 b.toNatClampNeg)) 431 b.toNatClampNeg) + 1)) 397 35) + 1)) 411 c.toNatClampNeg) + 1)) else (sI (sI (sI (sI h 418 (((144 * a) + b).toNatClampNeg) (gI h 429 b.toNatClampNeg)) 431 b.toNatClampNeg ((gI (sI h 418 (((144 * a) + b).toNatClampNeg) (gI h 429 b.toNatClampNeg)) 431 b.toNatClampNeg) + 1)) 397 35 ((gI (sI (sI h 418 (((144 * a) + b).toNatClampNeg) (gI h 429 b.toNatClampNeg)) 431 b.toNatClampNeg ((gI (sI h 418 (((144 * a) + b).toNatClampNeg) (gI h 429 b.toNatClampNeg)) 431 b.toNatClampNeg) + 1)) 397 35) + 1)) 411 c.toNatClampNeg ((gI (sI (sI (sI h 418 (((144 * a) + b).toNatClampNeg) (gI h 429 b.toNatClampNeg)) 431 b.toNatClampNeg ((gI (sI h 418 (((144 * a) + b).toNatClampNeg) (gI h 429 b.toNatClampNeg)) 431 b.toNatClampNeg) + 1)) 397 35 ((gI (sI (sI h 418 (((144 * a) + b).toNatClampNeg) (gI h 429 b.toNatClampNeg)) 431 b.toNatClampNeg ((gI (sI h 418 (((144 * a) + b).toNatClampNeg) (gI h 429 b.toNatClampNeg)) 431 b.toNatClampNeg) + 1)) 397 35) + 1)) 411 c.toNatClampNeg) + 0))) else (if (gI (sI (sI h 418 (((144 * a) + b).toNatClampNeg) (gI h 429 b.toNatClampNeg)) 431 b.toNatClampNeg ((gI (sI h 418 (((144 * a) + b).toNatClampNeg) (gI h 429 b.toNatClampNeg)) 431 b.toNatClampNeg) + 1)) 405 b.toNatClampNeg) = 6 then (if (gI (sI (sI h 418 (((144 * a) + b).toNatClampNeg) (gI h 429 b.toNatClampNeg)) 431 b.toNatClampNeg ((gI (sI h 418 (((144 * a) + b).toNatClampNeg) (gI h 429 b.toNatClampNeg)) 431 b.toNatClampNeg) + 1)) 402 ((2 * (gI (sI (sI h 418 (((144 * a) + b).toNatClampNeg) (gI h 429 b.toNatClampNeg)) 431 b.toNatClampNeg ((gI (sI h 418 (((144 * a) + b).toNatClampNeg) (gI h 429 b.toNatClampNeg)) 431 b.toNatClampNeg) + 1)) 407 b.toNatClampNeg)).toNatClampNeg)) = c then (sI (sI (sI h 418 (((144 * a) + b).toNatClampNeg) (gI h 429 b.toNatClampNeg)) 431 b.toNatClampNeg ((gI (sI h 418 (((144 * a) + b).toNatClampNeg) (gI h 429 b.toNatClampNeg)) 431 b.toNatClampNeg) + 1)) 417 ((2 * ((144 * a) + b)).toNatClampNeg) ((gI (sI (sI h 418 (((144 * a) + b).toNatClampNeg) (gI h 429 b.toNatClampNeg)) 431 b.toNatClampNeg ((gI (sI h 418 (((144 * a) + b).toNatClampNeg) (gI h 429 b.toNatClampNeg)) 431 b.toNatClampNeg) + 1)) 417 ((2 * ((144 * a) + b)).toNatClampNeg)) + 1)) else (sI (sI (sI h 418 (((144 * a) + b).toNatClampNeg) (gI h 429 b.toNatClampNeg)) 431 b.toNatClampNeg ((gI (sI h 418 (((144 * a) + b).toNatClampNeg) (gI h 429 b.toNatClampNeg)) 431 b.toNatClampNeg) + 1)) 417 (((2 * ((144 * a) + b)) + 1).toNatClampNeg) ((gI (sI (sI h 418 (((144 * a) + b).toNatClampNeg) (gI h 429 b.toNatClampNeg)) 431 b.toNatClampNeg ((gI (sI h 418 (((144 * a) + b).toNatClampNeg) (gI h 429 b.toNatClampNeg)) 431 b.toNatClampNeg) + 1)) 417 (((2 * ((144 * a) + b)) + 1).toNatClampNeg)) + 1))) else (sI (sI (sI h 418 (((144 * a) + b).toNatClampNeg) (gI h 429 b.toNatClampNeg)) 431 b.toNatClampNeg ((gI (sI h 418 (((144 * a) + b).toNatClampNeg) (gI h 429 b.toNatClampNeg)) 431 b.toNatClampNeg) + 1)) 412 (((144 * a) + b).toNatClampNeg) c))
theorem n_G164 (a : Int32) (b : Int32) (c : Int32) (h : Hp) : (G164 a b c h).1 = h.1 := by
  unfold G164
  (repeat' split) <;> first | rfl | (simp only [n_sI, n_sL, n_sR])
theorem r_G164 (a : Int32) (b : Int32) (c : Int32) (h : Hp) : gR (G164 a b c h) = gR h := by
  unfold G164
  (repeat' split) <;> first | rfl | (simp only [gR_sI, gR_sL])
def P164 (a : Int32) (b : Int32) (c : Int32) (h : Hp) : Prop := (vp_in b 144) ∧ ((vp_in ((144 * a) + b) 432) ∧ ((vp_in b 144) ∧ ((vp_in b 144) ∧ ((vp_in b 144) ∧ ((((gI (sI (sI h 418 (((144 * a) + b).toNatClampNeg) (gI h 429 b.toNatClampNeg)) 431 b.toNatClampNeg ((gI (sI h 418 (((144 * a) + b).toNatClampNeg) (gI h 429 b.toNatClampNeg)) 431 b.toNatClampNeg) + 1)) 405 b.toNatClampNeg) = 7) → ((vp_in c 21) ∧ (((a = 0) → ((vp_in c 21) ∧ (True))) ∧ (¬ (a = 0) → ((vp_in c 21) ∧ (True)))))) ∧ (¬ ((gI (sI (sI h 418 (((144 * a) + b).toNatClampNeg) (gI h 429 b.toNatClampNeg)) 431 b.toNatClampNeg ((gI (sI h 418 (((144 * a) + b).toNatClampNeg) (gI h 429 b.toNatClampNeg)) 431 b.toNatClampNeg) + 1)) 405 b.toNatClampNeg) = 7) → ((vp_in b 144) ∧ ((((gI (sI (sI h 418 (((144 * a) + b).toNatClampNeg) (gI h 429 b.toNatClampNeg)) 431 b.toNatClampNeg ((gI (sI h 418 (((144 * a) + b).toNatClampNeg) (gI h 429 b.toNatClampNeg)) 431 b.toNatClampNeg) + 1)) 405 b.toNatClampNeg) = 6) → ((vp_in b 144) ∧ ((vp_in (2 * (gI (sI (sI h 418 (((144 * a) + b).toNatClampNeg) (gI h 429 b.toNatClampNeg)) 431 b.toNatClampNeg ((gI (sI h 418 (((144 * a) + b).toNatClampNeg) (gI h 429 b.toNatClampNeg)) 431 b.toNatClampNeg) + 1)) 407 b.toNatClampNeg)) 16) ∧ ((((gI (sI (sI h 418 (((144 * a) + b).toNatClampNeg) (gI h 429 b.toNatClampNeg)) 431 b.toNatClampNeg ((gI (sI h 418 (((144 * a) + b).toNatClampNeg) (gI h 429 b.toNatClampNeg)) 431 b.toNatClampNeg) + 1)) 402 ((2 * (gI (sI (sI h 418 (((144 * a) + b).toNatClampNeg) (gI h 429 b.toNatClampNeg)) 431 b.toNatClampNeg ((gI (sI h 418 (((144 * a) + b).toNatClampNeg) (gI h 429 b.toNatClampNeg)) 431 b.toNatClampNeg) + 1)) 407 b.toNatClampNeg)).toNatClampNeg)) = c) → ((vp_in (2 * ((144 * a) + b)) 864) ∧ ((vp_in (2 * ((144 * a) + b)) 864) ∧ (True)))) ∧ (¬ ((gI (sI (sI h 418 (((144 * a) + b).toNatClampNeg) (gI h 429 b.toNatClampNeg)) 431 b.toNatClampNeg ((gI (sI h 418 (((144 * a) + b).toNatClampNeg) (gI h 429 b.toNatClampNeg)) 431 b.toNatClampNeg) + 1)) 402 ((2 * (gI (sI (sI h 418 (((144 * a) + b).toNatClampNeg) (gI h 429 b.toNatClampNeg)) 431 b.toNatClampNeg ((gI (sI h 418 (((144 * a) + b).toNatClampNeg) (gI h 429 b.toNatClampNeg)) 431 b.toNatClampNeg) + 1)) 407 b.toNatClampNeg)).toNatClampNeg)) = c) → ((vp_in ((2 * ((144 * a) + b)) + 1) 864) ∧ ((vp_in ((2 * ((144 * a) + b)) + 1) 864) ∧ (True)))))))) ∧ (¬ ((gI (sI (sI h 418 (((144 * a) + b).toNatClampNeg) (gI h 429 b.toNatClampNeg)) 431 b.toNatClampNeg ((gI (sI h 418 (((144 * a) + b).toNatClampNeg) (gI h 429 b.toNatClampNeg)) 431 b.toNatClampNeg) + 1)) 405 b.toNatClampNeg) = 6) → ((vp_in ((144 * a) + b) 432) ∧ (True)))))))))))
set_option maxHeartbeats 8000000 in
theorem m164 {L : Nat} {xs : Nat → Int32} {h : Hp} {a : Int32} {b : Int32} {c : Int32} (hn : 444 ≤ h.1) (hL : LK h) (hP : P164 a b c h) : Sp L xs 164 [.ref 397, .int a, .int b, .int c] h none (G164 a b c h) := by
  unfold P164 at hP
  refine sp_of (ls := [some (.ref 397), some (.int a), some (.int b), some (.int c), none]) rfl ?_
  refine e_cn (pc' := 3) i164_0 rfl ?_
  refine e_ld (pc' := 4) i164_3 rfl rfl ?_
  refine e_ib (z := 144 * a) (pc' := 5) i164_4 rfl rfl ?_
  refine e_ld (pc' := 6) i164_5 rfl rfl ?_
  refine e_ib (z := (144 * a) + b) (pc' := 7) i164_6 rfl rfl ?_
  refine e_st (ls' := [some (.ref 397), some (.int a), some (.int b), some (.int c), some (.int ((144 * a) + b))]) (pc' := 9) i164_7 rfl rfl rfl ?_
  refine e_ld (pc' := 10) i164_9 rfl rfl ?_
  refine e_get (w := .ref 418) (pc' := 13) i164_10 rfl (x_isC (by decide) hn sh397) (x_fvR (by decide +kernel) (hL 397 22 418 lk397_22)) ?_
  refine e_ld (pc' := 15) i164_13 rfl rfl ?_
  refine e_ld (pc' := 16) i164_15 rfl rfl ?_
  refine e_get (w := .ref 429) (pc' := 19) i164_16 rfl (x_isC (by decide) hn sh397) (x_fvR (by decide +kernel) (hL 397 33 429 lk397_33)) ?_
  refine e_ld (pc' := 20) i164_19 rfl rfl ?_
  obtain ⟨g1, hP⟩ := hP
  refine e_al (n := b.toNatClampNeg) (w := .int (gI h 429 b.toNatClampNeg)) (pc' := 21) i164_20 rfl (x_alX (a := 20) (by decide) hn sh429 (by decide) g1) rfl rfl ?_
  obtain ⟨g2, hP⟩ := hP
  refine e_as (n := ((144 * a) + b).toNatClampNeg) (h' := sI h 418 (((144 * a) + b).toNatClampNeg) (gI h 429 b.toNatClampNeg)) (pc' := 22) i164_21 rfl (x_alX (a := 20) (by decide) hn sh418 (by decide) g2) rfl (by rw [show (SH 418).1 = 20 by rw [sh418]]; rfl) ?_
  have hn3 : 444 ≤ (sI h 418 (((144 * a) + b).toNatClampNeg) (gI h 429 b.toNatClampNeg)).1 := hn
  have hL3 : LK (sI h 418 (((144 * a) + b).toNatClampNeg) (gI h 429 b.toNatClampNeg)) := hL
  refine e_ld (pc' := 23) i164_22 rfl rfl ?_
  refine e_get (w := .ref 431) (pc' := 26) i164_23 rfl (x_isC (by decide) hn3 sh397) (x_fvR (by decide +kernel) (hL3 397 37 431 lk397_37)) ?_
  refine e_ld (pc' := 27) i164_26 rfl rfl ?_
  refine e_stk (pc' := 28) i164_27 rfl rfl ?_
  obtain ⟨g4, hP⟩ := hP
  refine e_al (n := b.toNatClampNeg) (w := .int (gI (sI h 418 (((144 * a) + b).toNatClampNeg) (gI h 429 b.toNatClampNeg)) 431 b.toNatClampNeg)) (pc' := 29) i164_28 rfl (x_alX (a := 20) (by decide) hn3 sh431 (by decide) g4) rfl rfl ?_
  refine e_cn (pc' := 30) i164_29 rfl ?_
  refine e_ib (z := (gI (sI h 418 (((144 * a) + b).toNatClampNeg) (gI h 429 b.toNatClampNeg)) 431 b.toNatClampNeg) + 1) (pc' := 31) i164_30 rfl rfl ?_
  obtain ⟨g5, hP⟩ := hP
  refine e_as (n := b.toNatClampNeg) (h' := sI (sI h 418 (((144 * a) + b).toNatClampNeg) (gI h 429 b.toNatClampNeg)) 431 b.toNatClampNeg ((gI (sI h 418 (((144 * a) + b).toNatClampNeg) (gI h 429 b.toNatClampNeg)) 431 b.toNatClampNeg) + 1)) (pc' := 32) i164_31 rfl (x_alX (a := 20) (by decide) hn3 sh431 (by decide) g5) rfl (by rw [show (SH 431).1 = 20 by rw [sh431]]; rfl) ?_
  have hn6 : 444 ≤ (sI (sI h 418 (((144 * a) + b).toNatClampNeg) (gI h 429 b.toNatClampNeg)) 431 b.toNatClampNeg ((gI (sI h 418 (((144 * a) + b).toNatClampNeg) (gI h 429 b.toNatClampNeg)) 431 b.toNatClampNeg) + 1)).1 := hn3
  have hL6 : LK (sI (sI h 418 (((144 * a) + b).toNatClampNeg) (gI h 429 b.toNatClampNeg)) 431 b.toNatClampNeg ((gI (sI h 418 (((144 * a) + b).toNatClampNeg) (gI h 429 b.toNatClampNeg)) 431 b.toNatClampNeg) + 1)) := hL3
  refine e_ld (pc' := 33) i164_32 rfl rfl ?_
  refine e_get (w := .ref 405) (pc' := 36) i164_33 rfl (x_isC (by decide) hn6 sh397) (x_fvR (by decide +kernel) (hL6 397 8 405 lk397_8)) ?_
  refine e_ld (pc' := 37) i164_36 rfl rfl ?_
  obtain ⟨g7, hP⟩ := hP
  refine e_al (n := b.toNatClampNeg) (w := .int (gI (sI (sI h 418 (((144 * a) + b).toNatClampNeg) (gI h 429 b.toNatClampNeg)) 431 b.toNatClampNeg ((gI (sI h 418 (((144 * a) + b).toNatClampNeg) (gI h 429 b.toNatClampNeg)) 431 b.toNatClampNeg) + 1)) 405 b.toNatClampNeg)) (pc' := 38) i164_37 rfl (x_alX (a := 20) (by decide) hn6 sh405 (by decide) g7) rfl rfl ?_
  refine e_cn (pc' := 40) i164_38 rfl ?_
  refine e_ic (pc' := 43) i164_40 rfl (fun c8 => ?_) (fun c8 => ?_)
  · replace hP := hP.2 (of_decide_eq_true c8)
    refine e_ld (pc' := 75) i164_74 rfl rfl ?_
    refine e_get (w := .ref 405) (pc' := 78) i164_75 rfl (x_isC (by decide) hn6 sh397) (x_fvR (by decide +kernel) (hL6 397 8 405 lk397_8)) ?_
    refine e_ld (pc' := 79) i164_78 rfl rfl ?_
    obtain ⟨g9, hP⟩ := hP
    refine e_al (n := b.toNatClampNeg) (w := .int (gI (sI (sI h 418 (((144 * a) + b).toNatClampNeg) (gI h 429 b.toNatClampNeg)) 431 b.toNatClampNeg ((gI (sI h 418 (((144 * a) + b).toNatClampNeg) (gI h 429 b.toNatClampNeg)) 431 b.toNatClampNeg) + 1)) 405 b.toNatClampNeg)) (pc' := 80) i164_79 rfl (x_alX (a := 20) (by decide) hn6 sh405 (by decide) g9) rfl rfl ?_
    refine e_cn (pc' := 82) i164_80 rfl ?_
    refine e_ic (pc' := 85) i164_82 rfl (fun c10 => ?_) (fun c10 => ?_)
    · replace hP := hP.2 (of_decide_eq_true c10)
      refine e_ld (pc' := 128) i164_127 rfl rfl ?_
      refine e_get (w := .ref 412) (pc' := 131) i164_128 rfl (x_isC (by decide) hn6 sh397) (x_fvR (by decide +kernel) (hL6 397 16 412 lk397_16)) ?_
      refine e_ld (pc' := 133) i164_131 rfl rfl ?_
      refine e_ld (pc' := 134) i164_133 rfl rfl ?_
      obtain ⟨g11, hP⟩ := hP
      refine e_as (n := ((144 * a) + b).toNatClampNeg) (h' := sI (sI (sI h 418 (((144 * a) + b).toNatClampNeg) (gI h 429 b.toNatClampNeg)) 431 b.toNatClampNeg ((gI (sI h 418 (((144 * a) + b).toNatClampNeg) (gI h 429 b.toNatClampNeg)) 431 b.toNatClampNeg) + 1)) 412 (((144 * a) + b).toNatClampNeg) c) (pc' := 135) i164_134 rfl (x_alX (a := 20) (by decide) hn6 sh412 (by decide) g11) rfl (by rw [show (SH 412).1 = 20 by rw [sh412]]; rfl) ?_
      have hn12 : 444 ≤ (sI (sI (sI h 418 (((144 * a) + b).toNatClampNeg) (gI h 429 b.toNatClampNeg)) 431 b.toNatClampNeg ((gI (sI h 418 (((144 * a) + b).toNatClampNeg) (gI h 429 b.toNatClampNeg)) 431 b.toNatClampNeg) + 1)) 412 (((144 * a) + b).toNatClampNeg) c).1 := hn6
      have hL12 : LK (sI (sI (sI h 418 (((144 * a) + b).toNatClampNeg) (gI h 429 b.toNatClampNeg)) 431 b.toNatClampNeg ((gI (sI h 418 (((144 * a) + b).toNatClampNeg) (gI h 429 b.toNatClampNeg)) 431 b.toNatClampNeg) + 1)) 412 (((144 * a) + b).toNatClampNeg) c) := hL6
      refine e_rt i164_135 rfl ?_
      exact ⟨rfl, by unfold G164; simp only [if_neg (show ¬ ((gI (sI (sI h 418 (((144 * a) + b).toNatClampNeg) (gI h 429 b.toNatClampNeg)) 431 b.toNatClampNeg ((gI (sI h 418 (((144 * a) + b).toNatClampNeg) (gI h 429 b.toNatClampNeg)) 431 b.toNatClampNeg) + 1)) 405 b.toNatClampNeg) = 7) from (of_decide_eq_true c8)), if_neg (show ¬ ((gI (sI (sI h 418 (((144 * a) + b).toNatClampNeg) (gI h 429 b.toNatClampNeg)) 431 b.toNatClampNeg ((gI (sI h 418 (((144 * a) + b).toNatClampNeg) (gI h 429 b.toNatClampNeg)) 431 b.toNatClampNeg) + 1)) 405 b.toNatClampNeg) = 6) from (of_decide_eq_true c10))]⟩
    · replace hP := hP.1 (Decidable.not_not.mp (of_decide_eq_false c10))
      refine e_ld (pc' := 86) i164_85 rfl rfl ?_
      refine e_get (w := .ref 417) (pc' := 89) i164_86 rfl (x_isC (by decide) hn6 sh397) (x_fvR (by decide +kernel) (hL6 397 21 417 lk397_21)) ?_
      refine e_ld (pc' := 90) i164_89 rfl rfl ?_
      refine e_get (w := .ref 402) (pc' := 93) i164_90 rfl (x_isC (by decide) hn6 sh397) (x_fvR (by decide +kernel) (hL6 397 5 402 lk397_5)) ?_
      refine e_cn (pc' := 94) i164_93 rfl ?_
      refine e_ld (pc' := 95) i164_94 rfl rfl ?_
      refine e_get (w := .ref 407) (pc' := 98) i164_95 rfl (x_isC (by decide) hn6 sh397) (x_fvR (by decide +kernel) (hL6 397 10 407 lk397_10)) ?_
      refine e_ld (pc' := 99) i164_98 rfl rfl ?_
      obtain ⟨g13, hP⟩ := hP
      refine e_al (n := b.toNatClampNeg) (w := .int (gI (sI (sI h 418 (((144 * a) + b).toNatClampNeg) (gI h 429 b.toNatClampNeg)) 431 b.toNatClampNeg ((gI (sI h 418 (((144 * a) + b).toNatClampNeg) (gI h 429 b.toNatClampNeg)) 431 b.toNatClampNeg) + 1)) 407 b.toNatClampNeg)) (pc' := 100) i164_99 rfl (x_alX (a := 20) (by decide) hn6 sh407 (by decide) g13) rfl rfl ?_
      refine e_ib (z := 2 * (gI (sI (sI h 418 (((144 * a) + b).toNatClampNeg) (gI h 429 b.toNatClampNeg)) 431 b.toNatClampNeg ((gI (sI h 418 (((144 * a) + b).toNatClampNeg) (gI h 429 b.toNatClampNeg)) 431 b.toNatClampNeg) + 1)) 407 b.toNatClampNeg)) (pc' := 101) i164_100 rfl rfl ?_
      obtain ⟨g14, hP⟩ := hP
      refine e_al (n := (2 * (gI (sI (sI h 418 (((144 * a) + b).toNatClampNeg) (gI h 429 b.toNatClampNeg)) 431 b.toNatClampNeg ((gI (sI h 418 (((144 * a) + b).toNatClampNeg) (gI h 429 b.toNatClampNeg)) 431 b.toNatClampNeg) + 1)) 407 b.toNatClampNeg)).toNatClampNeg) (w := .int (gI (sI (sI h 418 (((144 * a) + b).toNatClampNeg) (gI h 429 b.toNatClampNeg)) 431 b.toNatClampNeg ((gI (sI h 418 (((144 * a) + b).toNatClampNeg) (gI h 429 b.toNatClampNeg)) 431 b.toNatClampNeg) + 1)) 402 ((2 * (gI (sI (sI h 418 (((144 * a) + b).toNatClampNeg) (gI h 429 b.toNatClampNeg)) 431 b.toNatClampNeg ((gI (sI h 418 (((144 * a) + b).toNatClampNeg) (gI h 429 b.toNatClampNeg)) 431 b.toNatClampNeg) + 1)) 407 b.toNatClampNeg)).toNatClampNeg))) (pc' := 102) i164_101 rfl (x_alX (a := 20) (by decide) hn6 sh402 (by decide) g14) rfl rfl ?_
      refine e_ld (pc' := 103) i164_102 rfl rfl ?_
      refine e_ic (pc' := 106) i164_103 rfl (fun c15 => ?_) (fun c15 => ?_)
      · replace hP := hP.2 (of_decide_eq_true c15)
        refine e_cn (pc' := 114) i164_113 rfl ?_
        refine e_ld (pc' := 116) i164_114 rfl rfl ?_
        refine e_ib (z := 2 * ((144 * a) + b)) (pc' := 117) i164_116 rfl rfl ?_
        refine e_cn (pc' := 118) i164_117 rfl ?_
        refine e_ib (z := (2 * ((144 * a) + b)) + 1) (pc' := 119) i164_118 rfl rfl ?_
        refine e_stk (pc' := 120) i164_119 rfl rfl ?_
        obtain ⟨g16, hP⟩ := hP
        refine e_al (n := ((2 * ((144 * a) + b)) + 1).toNatClampNeg) (w := .int (gI (sI (sI h 418 (((144 * a) + b).toNatClampNeg) (gI h 429 b.toNatClampNeg)) 431 b.toNatClampNeg ((gI (sI h 418 (((144 * a) + b).toNatClampNeg) (gI h 429 b.toNatClampNeg)) 431 b.toNatClampNeg) + 1)) 417 (((2 * ((144 * a) + b)) + 1).toNatClampNeg))) (pc' := 121) i164_120 rfl (x_alX (a := 20) (by decide) hn6 sh417 (by decide) g16) rfl rfl ?_
        refine e_cn (pc' := 122) i164_121 rfl ?_
        refine e_ib (z := (gI (sI (sI h 418 (((144 * a) + b).toNatClampNeg) (gI h 429 b.toNatClampNeg)) 431 b.toNatClampNeg ((gI (sI h 418 (((144 * a) + b).toNatClampNeg) (gI h 429 b.toNatClampNeg)) 431 b.toNatClampNeg) + 1)) 417 (((2 * ((144 * a) + b)) + 1).toNatClampNeg)) + 1) (pc' := 123) i164_122 rfl rfl ?_
        obtain ⟨g17, hP⟩ := hP
        refine e_as (n := ((2 * ((144 * a) + b)) + 1).toNatClampNeg) (h' := sI (sI (sI h 418 (((144 * a) + b).toNatClampNeg) (gI h 429 b.toNatClampNeg)) 431 b.toNatClampNeg ((gI (sI h 418 (((144 * a) + b).toNatClampNeg) (gI h 429 b.toNatClampNeg)) 431 b.toNatClampNeg) + 1)) 417 (((2 * ((144 * a) + b)) + 1).toNatClampNeg) ((gI (sI (sI h 418 (((144 * a) + b).toNatClampNeg) (gI h 429 b.toNatClampNeg)) 431 b.toNatClampNeg ((gI (sI h 418 (((144 * a) + b).toNatClampNeg) (gI h 429 b.toNatClampNeg)) 431 b.toNatClampNeg) + 1)) 417 (((2 * ((144 * a) + b)) + 1).toNatClampNeg)) + 1)) (pc' := 124) i164_123 rfl (x_alX (a := 20) (by decide) hn6 sh417 (by decide) g17) rfl (by rw [show (SH 417).1 = 20 by rw [sh417]]; rfl) ?_
        have hn18 : 444 ≤ (sI (sI (sI h 418 (((144 * a) + b).toNatClampNeg) (gI h 429 b.toNatClampNeg)) 431 b.toNatClampNeg ((gI (sI h 418 (((144 * a) + b).toNatClampNeg) (gI h 429 b.toNatClampNeg)) 431 b.toNatClampNeg) + 1)) 417 (((2 * ((144 * a) + b)) + 1).toNatClampNeg) ((gI (sI (sI h 418 (((144 * a) + b).toNatClampNeg) (gI h 429 b.toNatClampNeg)) 431 b.toNatClampNeg ((gI (sI h 418 (((144 * a) + b).toNatClampNeg) (gI h 429 b.toNatClampNeg)) 431 b.toNatClampNeg) + 1)) 417 (((2 * ((144 * a) + b)) + 1).toNatClampNeg)) + 1)).1 := hn6
        have hL18 : LK (sI (sI (sI h 418 (((144 * a) + b).toNatClampNeg) (gI h 429 b.toNatClampNeg)) 431 b.toNatClampNeg ((gI (sI h 418 (((144 * a) + b).toNatClampNeg) (gI h 429 b.toNatClampNeg)) 431 b.toNatClampNeg) + 1)) 417 (((2 * ((144 * a) + b)) + 1).toNatClampNeg) ((gI (sI (sI h 418 (((144 * a) + b).toNatClampNeg) (gI h 429 b.toNatClampNeg)) 431 b.toNatClampNeg ((gI (sI h 418 (((144 * a) + b).toNatClampNeg) (gI h 429 b.toNatClampNeg)) 431 b.toNatClampNeg) + 1)) 417 (((2 * ((144 * a) + b)) + 1).toNatClampNeg)) + 1)) := hL6
        refine e_go i164_124 ?_
        refine e_rt i164_135 rfl ?_
        exact ⟨rfl, by unfold G164; simp only [if_neg (show ¬ ((gI (sI (sI h 418 (((144 * a) + b).toNatClampNeg) (gI h 429 b.toNatClampNeg)) 431 b.toNatClampNeg ((gI (sI h 418 (((144 * a) + b).toNatClampNeg) (gI h 429 b.toNatClampNeg)) 431 b.toNatClampNeg) + 1)) 405 b.toNatClampNeg) = 7) from (of_decide_eq_true c8)), if_pos (show (gI (sI (sI h 418 (((144 * a) + b).toNatClampNeg) (gI h 429 b.toNatClampNeg)) 431 b.toNatClampNeg ((gI (sI h 418 (((144 * a) + b).toNatClampNeg) (gI h 429 b.toNatClampNeg)) 431 b.toNatClampNeg) + 1)) 405 b.toNatClampNeg) = 6 from (Decidable.not_not.mp (of_decide_eq_false c10))), if_neg (show ¬ ((gI (sI (sI h 418 (((144 * a) + b).toNatClampNeg) (gI h 429 b.toNatClampNeg)) 431 b.toNatClampNeg ((gI (sI h 418 (((144 * a) + b).toNatClampNeg) (gI h 429 b.toNatClampNeg)) 431 b.toNatClampNeg) + 1)) 402 ((2 * (gI (sI (sI h 418 (((144 * a) + b).toNatClampNeg) (gI h 429 b.toNatClampNeg)) 431 b.toNatClampNeg ((gI (sI h 418 (((144 * a) + b).toNatClampNeg) (gI h 429 b.toNatClampNeg)) 431 b.toNatClampNeg) + 1)) 407 b.toNatClampNeg)).toNatClampNeg)) = c) from (of_decide_eq_true c15))]⟩
      · replace hP := hP.1 (Decidable.not_not.mp (of_decide_eq_false c15))
        refine e_cn (pc' := 107) i164_106 rfl ?_
        refine e_ld (pc' := 109) i164_107 rfl rfl ?_
        refine e_ib (z := 2 * ((144 * a) + b)) (pc' := 110) i164_109 rfl rfl ?_
        refine e_go i164_110 ?_
        refine e_stk (pc' := 120) i164_119 rfl rfl ?_
        obtain ⟨g19, hP⟩ := hP
        refine e_al (n := (2 * ((144 * a) + b)).toNatClampNeg) (w := .int (gI (sI (sI h 418 (((144 * a) + b).toNatClampNeg) (gI h 429 b.toNatClampNeg)) 431 b.toNatClampNeg ((gI (sI h 418 (((144 * a) + b).toNatClampNeg) (gI h 429 b.toNatClampNeg)) 431 b.toNatClampNeg) + 1)) 417 ((2 * ((144 * a) + b)).toNatClampNeg))) (pc' := 121) i164_120 rfl (x_alX (a := 20) (by decide) hn6 sh417 (by decide) g19) rfl rfl ?_
        refine e_cn (pc' := 122) i164_121 rfl ?_
        refine e_ib (z := (gI (sI (sI h 418 (((144 * a) + b).toNatClampNeg) (gI h 429 b.toNatClampNeg)) 431 b.toNatClampNeg ((gI (sI h 418 (((144 * a) + b).toNatClampNeg) (gI h 429 b.toNatClampNeg)) 431 b.toNatClampNeg) + 1)) 417 ((2 * ((144 * a) + b)).toNatClampNeg)) + 1) (pc' := 123) i164_122 rfl rfl ?_
        obtain ⟨g20, hP⟩ := hP
        refine e_as (n := (2 * ((144 * a) + b)).toNatClampNeg) (h' := sI (sI (sI h 418 (((144 * a) + b).toNatClampNeg) (gI h 429 b.toNatClampNeg)) 431 b.toNatClampNeg ((gI (sI h 418 (((144 * a) + b).toNatClampNeg) (gI h 429 b.toNatClampNeg)) 431 b.toNatClampNeg) + 1)) 417 ((2 * ((144 * a) + b)).toNatClampNeg) ((gI (sI (sI h 418 (((144 * a) + b).toNatClampNeg) (gI h 429 b.toNatClampNeg)) 431 b.toNatClampNeg ((gI (sI h 418 (((144 * a) + b).toNatClampNeg) (gI h 429 b.toNatClampNeg)) 431 b.toNatClampNeg) + 1)) 417 ((2 * ((144 * a) + b)).toNatClampNeg)) + 1)) (pc' := 124) i164_123 rfl (x_alX (a := 20) (by decide) hn6 sh417 (by decide) g20) rfl (by rw [show (SH 417).1 = 20 by rw [sh417]]; rfl) ?_
        have hn21 : 444 ≤ (sI (sI (sI h 418 (((144 * a) + b).toNatClampNeg) (gI h 429 b.toNatClampNeg)) 431 b.toNatClampNeg ((gI (sI h 418 (((144 * a) + b).toNatClampNeg) (gI h 429 b.toNatClampNeg)) 431 b.toNatClampNeg) + 1)) 417 ((2 * ((144 * a) + b)).toNatClampNeg) ((gI (sI (sI h 418 (((144 * a) + b).toNatClampNeg) (gI h 429 b.toNatClampNeg)) 431 b.toNatClampNeg ((gI (sI h 418 (((144 * a) + b).toNatClampNeg) (gI h 429 b.toNatClampNeg)) 431 b.toNatClampNeg) + 1)) 417 ((2 * ((144 * a) + b)).toNatClampNeg)) + 1)).1 := hn6
        have hL21 : LK (sI (sI (sI h 418 (((144 * a) + b).toNatClampNeg) (gI h 429 b.toNatClampNeg)) 431 b.toNatClampNeg ((gI (sI h 418 (((144 * a) + b).toNatClampNeg) (gI h 429 b.toNatClampNeg)) 431 b.toNatClampNeg) + 1)) 417 ((2 * ((144 * a) + b)).toNatClampNeg) ((gI (sI (sI h 418 (((144 * a) + b).toNatClampNeg) (gI h 429 b.toNatClampNeg)) 431 b.toNatClampNeg ((gI (sI h 418 (((144 * a) + b).toNatClampNeg) (gI h 429 b.toNatClampNeg)) 431 b.toNatClampNeg) + 1)) 417 ((2 * ((144 * a) + b)).toNatClampNeg)) + 1)) := hL6
        refine e_go i164_124 ?_
        refine e_rt i164_135 rfl ?_
        exact ⟨rfl, by unfold G164; simp only [if_neg (show ¬ ((gI (sI (sI h 418 (((144 * a) + b).toNatClampNeg) (gI h 429 b.toNatClampNeg)) 431 b.toNatClampNeg ((gI (sI h 418 (((144 * a) + b).toNatClampNeg) (gI h 429 b.toNatClampNeg)) 431 b.toNatClampNeg) + 1)) 405 b.toNatClampNeg) = 7) from (of_decide_eq_true c8)), if_pos (show (gI (sI (sI h 418 (((144 * a) + b).toNatClampNeg) (gI h 429 b.toNatClampNeg)) 431 b.toNatClampNeg ((gI (sI h 418 (((144 * a) + b).toNatClampNeg) (gI h 429 b.toNatClampNeg)) 431 b.toNatClampNeg) + 1)) 405 b.toNatClampNeg) = 6 from (Decidable.not_not.mp (of_decide_eq_false c10))), if_pos (show (gI (sI (sI h 418 (((144 * a) + b).toNatClampNeg) (gI h 429 b.toNatClampNeg)) 431 b.toNatClampNeg ((gI (sI h 418 (((144 * a) + b).toNatClampNeg) (gI h 429 b.toNatClampNeg)) 431 b.toNatClampNeg) + 1)) 402 ((2 * (gI (sI (sI h 418 (((144 * a) + b).toNatClampNeg) (gI h 429 b.toNatClampNeg)) 431 b.toNatClampNeg ((gI (sI h 418 (((144 * a) + b).toNatClampNeg) (gI h 429 b.toNatClampNeg)) 431 b.toNatClampNeg) + 1)) 407 b.toNatClampNeg)).toNatClampNeg)) = c from (Decidable.not_not.mp (of_decide_eq_false c15)))]⟩
  · replace hP := hP.1 (Decidable.not_not.mp (of_decide_eq_false c8))
    refine e_ld (pc' := 44) i164_43 rfl rfl ?_
    refine e_stk (pc' := 45) i164_44 rfl rfl ?_
    refine e_get (w := .int (gI (sI (sI h 418 (((144 * a) + b).toNatClampNeg) (gI h 429 b.toNatClampNeg)) 431 b.toNatClampNeg ((gI (sI h 418 (((144 * a) + b).toNatClampNeg) (gI h 429 b.toNatClampNeg)) 431 b.toNatClampNeg) + 1)) 397 35)) (pc' := 48) i164_45 rfl (x_isC (by decide) hn6 sh397) rfl ?_
    refine e_cn (pc' := 49) i164_48 rfl ?_
    refine e_ib (z := (gI (sI (sI h 418 (((144 * a) + b).toNatClampNeg) (gI h 429 b.toNatClampNeg)) 431 b.toNatClampNeg ((gI (sI h 418 (((144 * a) + b).toNatClampNeg) (gI h 429 b.toNatClampNeg)) 431 b.toNatClampNeg) + 1)) 397 35) + 1) (pc' := 50) i164_49 rfl rfl ?_
    refine e_put (h' := sI (sI (sI h 418 (((144 * a) + b).toNatClampNeg) (gI h 429 b.toNatClampNeg)) 431 b.toNatClampNeg ((gI (sI h 418 (((144 * a) + b).toNatClampNeg) (gI h 429 b.toNatClampNeg)) 431 b.toNatClampNeg) + 1)) 397 35 ((gI (sI (sI h 418 (((144 * a) + b).toNatClampNeg) (gI h 429 b.toNatClampNeg)) 431 b.toNatClampNeg ((gI (sI h 418 (((144 * a) + b).toNatClampNeg) (gI h 429 b.toNatClampNeg)) 431 b.toNatClampNeg) + 1)) 397 35) + 1)) (pc' := 53) i164_50 rfl (x_isC (by decide) hn6 sh397) rfl ?_
    have hn22 : 444 ≤ (sI (sI (sI h 418 (((144 * a) + b).toNatClampNeg) (gI h 429 b.toNatClampNeg)) 431 b.toNatClampNeg ((gI (sI h 418 (((144 * a) + b).toNatClampNeg) (gI h 429 b.toNatClampNeg)) 431 b.toNatClampNeg) + 1)) 397 35 ((gI (sI (sI h 418 (((144 * a) + b).toNatClampNeg) (gI h 429 b.toNatClampNeg)) 431 b.toNatClampNeg ((gI (sI h 418 (((144 * a) + b).toNatClampNeg) (gI h 429 b.toNatClampNeg)) 431 b.toNatClampNeg) + 1)) 397 35) + 1)).1 := hn6
    have hL22 : LK (sI (sI (sI h 418 (((144 * a) + b).toNatClampNeg) (gI h 429 b.toNatClampNeg)) 431 b.toNatClampNeg ((gI (sI h 418 (((144 * a) + b).toNatClampNeg) (gI h 429 b.toNatClampNeg)) 431 b.toNatClampNeg) + 1)) 397 35 ((gI (sI (sI h 418 (((144 * a) + b).toNatClampNeg) (gI h 429 b.toNatClampNeg)) 431 b.toNatClampNeg ((gI (sI h 418 (((144 * a) + b).toNatClampNeg) (gI h 429 b.toNatClampNeg)) 431 b.toNatClampNeg) + 1)) 397 35) + 1)) := hL6
    refine e_ld (pc' := 54) i164_53 rfl rfl ?_
    refine e_get (w := .ref 411) (pc' := 57) i164_54 rfl (x_isC (by decide) hn22 sh397) (x_fvR (by decide +kernel) (hL22 397 15 411 lk397_15)) ?_
    refine e_ld (pc' := 58) i164_57 rfl rfl ?_
    refine e_stk (pc' := 59) i164_58 rfl rfl ?_
    obtain ⟨g23, hP⟩ := hP
    refine e_al (n := c.toNatClampNeg) (w := .int (gI (sI (sI (sI h 418 (((144 * a) + b).toNatClampNeg) (gI h 429 b.toNatClampNeg)) 431 b.toNatClampNeg ((gI (sI h 418 (((144 * a) + b).toNatClampNeg) (gI h 429 b.toNatClampNeg)) 431 b.toNatClampNeg) + 1)) 397 35 ((gI (sI (sI h 418 (((144 * a) + b).toNatClampNeg) (gI h 429 b.toNatClampNeg)) 431 b.toNatClampNeg ((gI (sI h 418 (((144 * a) + b).toNatClampNeg) (gI h 429 b.toNatClampNeg)) 431 b.toNatClampNeg) + 1)) 397 35) + 1)) 411 c.toNatClampNeg)) (pc' := 60) i164_59 rfl (x_alX (a := 20) (by decide) hn22 sh411 (by decide) g23) rfl rfl ?_
    refine e_ld (pc' := 61) i164_60 rfl rfl ?_
    refine e_if (pc' := 64) i164_61 rfl (fun c24 => ?_) (fun c24 => ?_)
    · replace hP := hP.2 (of_decide_eq_true c24)
      refine e_cn (pc' := 69) i164_68 rfl ?_
      refine e_ib (z := (gI (sI (sI (sI h 418 (((144 * a) + b).toNatClampNeg) (gI h 429 b.toNatClampNeg)) 431 b.toNatClampNeg ((gI (sI h 418 (((144 * a) + b).toNatClampNeg) (gI h 429 b.toNatClampNeg)) 431 b.toNatClampNeg) + 1)) 397 35 ((gI (sI (sI h 418 (((144 * a) + b).toNatClampNeg) (gI h 429 b.toNatClampNeg)) 431 b.toNatClampNeg ((gI (sI h 418 (((144 * a) + b).toNatClampNeg) (gI h 429 b.toNatClampNeg)) 431 b.toNatClampNeg) + 1)) 397 35) + 1)) 411 c.toNatClampNeg) + 0) (pc' := 70) i164_69 rfl rfl ?_
      obtain ⟨g25, hP⟩ := hP
      refine e_as (n := c.toNatClampNeg) (h' := sI (sI (sI (sI h 418 (((144 * a) + b).toNatClampNeg) (gI h 429 b.toNatClampNeg)) 431 b.toNatClampNeg ((gI (sI h 418 (((144 * a) + b).toNatClampNeg) (gI h 429 b.toNatClampNeg)) 431 b.toNatClampNeg) + 1)) 397 35 ((gI (sI (sI h 418 (((144 * a) + b).toNatClampNeg) (gI h 429 b.toNatClampNeg)) 431 b.toNatClampNeg ((gI (sI h 418 (((144 * a) + b).toNatClampNeg) (gI h 429 b.toNatClampNeg)) 431 b.toNatClampNeg) + 1)) 397 35) + 1)) 411 c.toNatClampNeg ((gI (sI (sI (sI h 418 (((144 * a) + b).toNatClampNeg) (gI h 429 b.toNatClampNeg)) 431 b.toNatClampNeg ((gI (sI h 418 (((144 * a) + b).toNatClampNeg) (gI h 429 b.toNatClampNeg)) 431 b.toNatClampNeg) + 1)) 397 35 ((gI (sI (sI h 418 (((144 * a) + b).toNatClampNeg) (gI h 429 b.toNatClampNeg)) 431 b.toNatClampNeg ((gI (sI h 418 (((144 * a) + b).toNatClampNeg) (gI h 429 b.toNatClampNeg)) 431 b.toNatClampNeg) + 1)) 397 35) + 1)) 411 c.toNatClampNeg) + 0)) (pc' := 71) i164_70 rfl (x_alX (a := 20) (by decide) hn22 sh411 (by decide) g25) rfl (by rw [show (SH 411).1 = 20 by rw [sh411]]; rfl) ?_
      have hn26 : 444 ≤ (sI (sI (sI (sI h 418 (((144 * a) + b).toNatClampNeg) (gI h 429 b.toNatClampNeg)) 431 b.toNatClampNeg ((gI (sI h 418 (((144 * a) + b).toNatClampNeg) (gI h 429 b.toNatClampNeg)) 431 b.toNatClampNeg) + 1)) 397 35 ((gI (sI (sI h 418 (((144 * a) + b).toNatClampNeg) (gI h 429 b.toNatClampNeg)) 431 b.toNatClampNeg ((gI (sI h 418 (((144 * a) + b).toNatClampNeg) (gI h 429 b.toNatClampNeg)) 431 b.toNatClampNeg) + 1)) 397 35) + 1)) 411 c.toNatClampNeg ((gI (sI (sI (sI h 418 (((144 * a) + b).toNatClampNeg) (gI h 429 b.toNatClampNeg)) 431 b.toNatClampNeg ((gI (sI h 418 (((144 * a) + b).toNatClampNeg) (gI h 429 b.toNatClampNeg)) 431 b.toNatClampNeg) + 1)) 397 35 ((gI (sI (sI h 418 (((144 * a) + b).toNatClampNeg) (gI h 429 b.toNatClampNeg)) 431 b.toNatClampNeg ((gI (sI h 418 (((144 * a) + b).toNatClampNeg) (gI h 429 b.toNatClampNeg)) 431 b.toNatClampNeg) + 1)) 397 35) + 1)) 411 c.toNatClampNeg) + 0)).1 := hn22
      have hL26 : LK (sI (sI (sI (sI h 418 (((144 * a) + b).toNatClampNeg) (gI h 429 b.toNatClampNeg)) 431 b.toNatClampNeg ((gI (sI h 418 (((144 * a) + b).toNatClampNeg) (gI h 429 b.toNatClampNeg)) 431 b.toNatClampNeg) + 1)) 397 35 ((gI (sI (sI h 418 (((144 * a) + b).toNatClampNeg) (gI h 429 b.toNatClampNeg)) 431 b.toNatClampNeg ((gI (sI h 418 (((144 * a) + b).toNatClampNeg) (gI h 429 b.toNatClampNeg)) 431 b.toNatClampNeg) + 1)) 397 35) + 1)) 411 c.toNatClampNeg ((gI (sI (sI (sI h 418 (((144 * a) + b).toNatClampNeg) (gI h 429 b.toNatClampNeg)) 431 b.toNatClampNeg ((gI (sI h 418 (((144 * a) + b).toNatClampNeg) (gI h 429 b.toNatClampNeg)) 431 b.toNatClampNeg) + 1)) 397 35 ((gI (sI (sI h 418 (((144 * a) + b).toNatClampNeg) (gI h 429 b.toNatClampNeg)) 431 b.toNatClampNeg ((gI (sI h 418 (((144 * a) + b).toNatClampNeg) (gI h 429 b.toNatClampNeg)) 431 b.toNatClampNeg) + 1)) 397 35) + 1)) 411 c.toNatClampNeg) + 0)) := hL22
      refine e_go i164_71 ?_
      refine e_rt i164_135 rfl ?_
      exact ⟨rfl, by unfold G164; simp only [if_pos (show (gI (sI (sI h 418 (((144 * a) + b).toNatClampNeg) (gI h 429 b.toNatClampNeg)) 431 b.toNatClampNeg ((gI (sI h 418 (((144 * a) + b).toNatClampNeg) (gI h 429 b.toNatClampNeg)) 431 b.toNatClampNeg) + 1)) 405 b.toNatClampNeg) = 7 from (Decidable.not_not.mp (of_decide_eq_false c8))), if_neg (show ¬ (a = 0) from (of_decide_eq_true c24))]⟩
    · replace hP := hP.1 (Decidable.not_not.mp (of_decide_eq_false c24))
      refine e_cn (pc' := 65) i164_64 rfl ?_
      refine e_go i164_65 ?_
      refine e_ib (z := (gI (sI (sI (sI h 418 (((144 * a) + b).toNatClampNeg) (gI h 429 b.toNatClampNeg)) 431 b.toNatClampNeg ((gI (sI h 418 (((144 * a) + b).toNatClampNeg) (gI h 429 b.toNatClampNeg)) 431 b.toNatClampNeg) + 1)) 397 35 ((gI (sI (sI h 418 (((144 * a) + b).toNatClampNeg) (gI h 429 b.toNatClampNeg)) 431 b.toNatClampNeg ((gI (sI h 418 (((144 * a) + b).toNatClampNeg) (gI h 429 b.toNatClampNeg)) 431 b.toNatClampNeg) + 1)) 397 35) + 1)) 411 c.toNatClampNeg) + 1) (pc' := 70) i164_69 rfl rfl ?_
      obtain ⟨g27, hP⟩ := hP
      refine e_as (n := c.toNatClampNeg) (h' := sI (sI (sI (sI h 418 (((144 * a) + b).toNatClampNeg) (gI h 429 b.toNatClampNeg)) 431 b.toNatClampNeg ((gI (sI h 418 (((144 * a) + b).toNatClampNeg) (gI h 429 b.toNatClampNeg)) 431 b.toNatClampNeg) + 1)) 397 35 ((gI (sI (sI h 418 (((144 * a) + b).toNatClampNeg) (gI h 429 b.toNatClampNeg)) 431 b.toNatClampNeg ((gI (sI h 418 (((144 * a) + b).toNatClampNeg) (gI h 429 b.toNatClampNeg)) 431 b.toNatClampNeg) + 1)) 397 35) + 1)) 411 c.toNatClampNeg ((gI (sI (sI (sI h 418 (((144 * a) + b).toNatClampNeg) (gI h 429 b.toNatClampNeg)) 431 b.toNatClampNeg ((gI (sI h 418 (((144 * a) + b).toNatClampNeg) (gI h 429 b.toNatClampNeg)) 431 b.toNatClampNeg) + 1)) 397 35 ((gI (sI (sI h 418 (((144 * a) + b).toNatClampNeg) (gI h 429 b.toNatClampNeg)) 431 b.toNatClampNeg ((gI (sI h 418 (((144 * a) + b).toNatClampNeg) (gI h 429 b.toNatClampNeg)) 431 b.toNatClampNeg) + 1)) 397 35) + 1)) 411 c.toNatClampNeg) + 1)) (pc' := 71) i164_70 rfl (x_alX (a := 20) (by decide) hn22 sh411 (by decide) g27) rfl (by rw [show (SH 411).1 = 20 by rw [sh411]]; rfl) ?_
      have hn28 : 444 ≤ (sI (sI (sI (sI h 418 (((144 * a) + b).toNatClampNeg) (gI h 429 b.toNatClampNeg)) 431 b.toNatClampNeg ((gI (sI h 418 (((144 * a) + b).toNatClampNeg) (gI h 429 b.toNatClampNeg)) 431 b.toNatClampNeg) + 1)) 397 35 ((gI (sI (sI h 418 (((144 * a) + b).toNatClampNeg) (gI h 429 b.toNatClampNeg)) 431 b.toNatClampNeg ((gI (sI h 418 (((144 * a) + b).toNatClampNeg) (gI h 429 b.toNatClampNeg)) 431 b.toNatClampNeg) + 1)) 397 35) + 1)) 411 c.toNatClampNeg ((gI (sI (sI (sI h 418 (((144 * a) + b).toNatClampNeg) (gI h 429 b.toNatClampNeg)) 431 b.toNatClampNeg ((gI (sI h 418 (((144 * a) + b).toNatClampNeg) (gI h 429 b.toNatClampNeg)) 431 b.toNatClampNeg) + 1)) 397 35 ((gI (sI (sI h 418 (((144 * a) + b).toNatClampNeg) (gI h 429 b.toNatClampNeg)) 431 b.toNatClampNeg ((gI (sI h 418 (((144 * a) + b).toNatClampNeg) (gI h 429 b.toNatClampNeg)) 431 b.toNatClampNeg) + 1)) 397 35) + 1)) 411 c.toNatClampNeg) + 1)).1 := hn22
      have hL28 : LK (sI (sI (sI (sI h 418 (((144 * a) + b).toNatClampNeg) (gI h 429 b.toNatClampNeg)) 431 b.toNatClampNeg ((gI (sI h 418 (((144 * a) + b).toNatClampNeg) (gI h 429 b.toNatClampNeg)) 431 b.toNatClampNeg) + 1)) 397 35 ((gI (sI (sI h 418 (((144 * a) + b).toNatClampNeg) (gI h 429 b.toNatClampNeg)) 431 b.toNatClampNeg ((gI (sI h 418 (((144 * a) + b).toNatClampNeg) (gI h 429 b.toNatClampNeg)) 431 b.toNatClampNeg) + 1)) 397 35) + 1)) 411 c.toNatClampNeg ((gI (sI (sI (sI h 418 (((144 * a) + b).toNatClampNeg) (gI h 429 b.toNatClampNeg)) 431 b.toNatClampNeg ((gI (sI h 418 (((144 * a) + b).toNatClampNeg) (gI h 429 b.toNatClampNeg)) 431 b.toNatClampNeg) + 1)) 397 35 ((gI (sI (sI h 418 (((144 * a) + b).toNatClampNeg) (gI h 429 b.toNatClampNeg)) 431 b.toNatClampNeg ((gI (sI h 418 (((144 * a) + b).toNatClampNeg) (gI h 429 b.toNatClampNeg)) 431 b.toNatClampNeg) + 1)) 397 35) + 1)) 411 c.toNatClampNeg) + 1)) := hL22
      refine e_go i164_71 ?_
      refine e_rt i164_135 rfl ?_
      exact ⟨rfl, by unfold G164; simp only [if_pos (show (gI (sI (sI h 418 (((144 * a) + b).toNatClampNeg) (gI h 429 b.toNatClampNeg)) 431 b.toNatClampNeg ((gI (sI h 418 (((144 * a) + b).toNatClampNeg) (gI h 429 b.toNatClampNeg)) 431 b.toNatClampNeg) + 1)) 405 b.toNatClampNeg) = 7 from (Decidable.not_not.mp (of_decide_eq_false c8))), if_pos (show a = 0 from (Decidable.not_not.mp (of_decide_eq_false c24)))]⟩
/-- FloorTurnModel.turned(I)I -/
def F174 (a : Int32) (h : Hp) : Int32 := if (gI h 397 40) = 0 then ((-1)) else (if (x_in3 a 0 4) = true then (gI h 434 a.toNatClampNeg) else ((-1)))
def P174 (a : Int32) (h : Hp) : Prop := (((gI h 397 40) = 0) → (True)) ∧ (¬ ((gI h 397 40) = 0) → ((((x_in3 a 0 4) = true) → ((vp_in a 5) ∧ (True))) ∧ (¬ ((x_in3 a 0 4) = true) → (True))))
set_option maxHeartbeats 8000000 in
theorem m174 {L : Nat} {xs : Nat → Int32} {h : Hp} {a : Int32} (hn : 444 ≤ h.1) (hL : LK h) (hP : P174 a h) : Sp L xs 174 [.ref 397, .int a] h (some (.int (F174 a h))) h := by
  unfold P174 at hP
  refine sp_of (ls := [some (.ref 397), some (.int a)]) rfl ?_
  refine e_ld (pc' := 1) i174_0 rfl rfl ?_
  refine e_get (w := .int (gI h 397 40)) (pc' := 4) i174_1 rfl (x_isC (by decide) hn sh397) rfl ?_
  refine e_if (pc' := 7) i174_4 rfl (fun c1 => ?_) (fun c1 => ?_)
  · replace hP := hP.1 (of_decide_eq_true c1)
    refine e_cn (pc' := 26) i174_25 rfl ?_
    refine e_rt i174_26 rfl ?_
    exact ⟨by unfold F174; simp only [if_pos (show (gI h 397 40) = 0 from (of_decide_eq_true c1))], rfl⟩
  · replace hP := hP.2 (of_decide_eq_false c1)
    refine e_ld (pc' := 8) i174_7 rfl rfl ?_
    refine e_cn (pc' := 9) i174_8 rfl ?_
    refine e_cn (pc' := 10) i174_9 rfl ?_
    refine e_cI (w := .int (b2i (x_in3 a 0 4))) (As := [.int a, .int 0, .int 4]) (rest := []) (pc' := 13) i174_10 rfl rfl rfl rfl rfl m123 ?_
    refine e_b0 (pc' := 16) i174_13 rfl (fun c2 => ?_) (fun c2 => ?_)
    · replace hP := hP.2 (show ¬ (x_in3 a 0 4) = true by rw [c2]; decide)
      refine e_cn (pc' := 26) i174_25 rfl ?_
      refine e_rt i174_26 rfl ?_
      exact ⟨by unfold F174; simp only [if_neg (show ¬ ((gI h 397 40) = 0) from (of_decide_eq_false c1)), if_neg (show ¬ (x_in3 a 0 4) = true by rw [c2]; decide)], rfl⟩
    · replace hP := hP.1 c2
      refine e_ld (pc' := 17) i174_16 rfl rfl ?_
      refine e_get (w := .ref 434) (pc' := 20) i174_17 rfl (x_isC (by decide) hn sh397) (x_fvR (by decide +kernel) (hL 397 41 434 lk397_41)) ?_
      refine e_ld (pc' := 21) i174_20 rfl rfl ?_
      obtain ⟨g3, hP⟩ := hP
      refine e_al (n := a.toNatClampNeg) (w := .int (gI h 434 a.toNatClampNeg)) (pc' := 22) i174_21 rfl (x_alX (a := 20) (by decide) hn sh434 (by decide) g3) rfl rfl ?_
      refine e_go i174_22 ?_
      refine e_rt i174_26 rfl ?_
      exact ⟨by unfold F174; simp only [if_neg (show ¬ ((gI h 397 40) = 0) from (of_decide_eq_false c1)), if_pos c2], rfl⟩
/-- FloorTurnModel.cellTurn(II)I -/
def F175 (a : Int32) (b : Int32) (h : Hp) : Int32 := if (gI h 397 40) = 0 then ((-1)) else (if (x_isCell a) = true then (if (gI h 436 a.toNatClampNeg) = 0 then ((-1)) else (if (x_in3 b 0 4) = true then (gI h 435 (((5 * a) + b).toNatClampNeg)) else ((-1)))) else ((-1)))
def P175 (a : Int32) (b : Int32) (h : Hp) : Prop := (((gI h 397 40) = 0) → (True)) ∧ (¬ ((gI h 397 40) = 0) → ((((x_isCell a) = true) → ((vp_in a 144) ∧ ((((gI h 436 a.toNatClampNeg) = 0) → (True)) ∧ (¬ ((gI h 436 a.toNatClampNeg) = 0) → ((((x_in3 b 0 4) = true) → ((vp_in ((5 * a) + b) 720) ∧ (True))) ∧ (¬ ((x_in3 b 0 4) = true) → (True))))))) ∧ (¬ ((x_isCell a) = true) → (True))))
set_option maxHeartbeats 8000000 in
theorem m175 {L : Nat} {xs : Nat → Int32} {h : Hp} {a : Int32} {b : Int32} (hn : 444 ≤ h.1) (hL : LK h) (hP : P175 a b h) : Sp L xs 175 [.ref 397, .int a, .int b] h (some (.int (F175 a b h))) h := by
  unfold P175 at hP
  refine sp_of (ls := [some (.ref 397), some (.int a), some (.int b)]) rfl ?_
  refine e_ld (pc' := 1) i175_0 rfl rfl ?_
  refine e_get (w := .int (gI h 397 40)) (pc' := 4) i175_1 rfl (x_isC (by decide) hn sh397) rfl ?_
  refine e_if (pc' := 7) i175_4 rfl (fun c1 => ?_) (fun c1 => ?_)
  · replace hP := hP.1 (of_decide_eq_true c1)
    refine e_cn (pc' := 46) i175_45 rfl ?_
    refine e_rt i175_46 rfl ?_
    exact ⟨by unfold F175; simp only [if_pos (show (gI h 397 40) = 0 from (of_decide_eq_true c1))], rfl⟩
  · replace hP := hP.2 (of_decide_eq_false c1)
    refine e_ld (pc' := 8) i175_7 rfl rfl ?_
    refine e_cI (w := .int (b2i (x_isCell a))) (As := [.int a]) (rest := []) (pc' := 11) i175_8 rfl rfl rfl rfl rfl m125 ?_
    refine e_b0 (pc' := 14) i175_11 rfl (fun c2 => ?_) (fun c2 => ?_)
    · replace hP := hP.2 (show ¬ (x_isCell a) = true by rw [c2]; decide)
      refine e_cn (pc' := 46) i175_45 rfl ?_
      refine e_rt i175_46 rfl ?_
      exact ⟨by unfold F175; simp only [if_neg (show ¬ ((gI h 397 40) = 0) from (of_decide_eq_false c1)), if_neg (show ¬ (x_isCell a) = true by rw [c2]; decide)], rfl⟩
    · replace hP := hP.1 c2
      refine e_ld (pc' := 15) i175_14 rfl rfl ?_
      refine e_get (w := .ref 436) (pc' := 18) i175_15 rfl (x_isC (by decide) hn sh397) (x_fvR (by decide +kernel) (hL 397 43 436 lk397_43)) ?_
      refine e_ld (pc' := 19) i175_18 rfl rfl ?_
      obtain ⟨g3, hP⟩ := hP
      refine e_al (n := a.toNatClampNeg) (w := .int (gI h 436 a.toNatClampNeg)) (pc' := 20) i175_19 rfl (x_alX (a := 22) (by decide) hn sh436 (by decide) g3) rfl rfl ?_
      refine e_if (pc' := 23) i175_20 rfl (fun c4 => ?_) (fun c4 => ?_)
      · replace hP := hP.1 (of_decide_eq_true c4)
        refine e_cn (pc' := 46) i175_45 rfl ?_
        refine e_rt i175_46 rfl ?_
        exact ⟨by unfold F175; simp only [if_neg (show ¬ ((gI h 397 40) = 0) from (of_decide_eq_false c1)), if_pos c2, if_pos (show (gI h 436 a.toNatClampNeg) = 0 from (of_decide_eq_true c4))], rfl⟩
      · replace hP := hP.2 (of_decide_eq_false c4)
        refine e_ld (pc' := 24) i175_23 rfl rfl ?_
        refine e_cn (pc' := 25) i175_24 rfl ?_
        refine e_cn (pc' := 26) i175_25 rfl ?_
        refine e_cI (w := .int (b2i (x_in3 b 0 4))) (As := [.int b, .int 0, .int 4]) (rest := []) (pc' := 29) i175_26 rfl rfl rfl rfl rfl m123 ?_
        refine e_b0 (pc' := 32) i175_29 rfl (fun c5 => ?_) (fun c5 => ?_)
        · replace hP := hP.2 (show ¬ (x_in3 b 0 4) = true by rw [c5]; decide)
          refine e_cn (pc' := 46) i175_45 rfl ?_
          refine e_rt i175_46 rfl ?_
          exact ⟨by unfold F175; simp only [if_neg (show ¬ ((gI h 397 40) = 0) from (of_decide_eq_false c1)), if_pos c2, if_neg (show ¬ ((gI h 436 a.toNatClampNeg) = 0) from (of_decide_eq_false c4)), if_neg (show ¬ (x_in3 b 0 4) = true by rw [c5]; decide)], rfl⟩
        · replace hP := hP.1 c5
          refine e_ld (pc' := 33) i175_32 rfl rfl ?_
          refine e_get (w := .ref 435) (pc' := 36) i175_33 rfl (x_isC (by decide) hn sh397) (x_fvR (by decide +kernel) (hL 397 42 435 lk397_42)) ?_
          refine e_cn (pc' := 37) i175_36 rfl ?_
          refine e_ld (pc' := 38) i175_37 rfl rfl ?_
          refine e_ib (z := 5 * a) (pc' := 39) i175_38 rfl rfl ?_
          refine e_ld (pc' := 40) i175_39 rfl rfl ?_
          refine e_ib (z := (5 * a) + b) (pc' := 41) i175_40 rfl rfl ?_
          obtain ⟨g6, hP⟩ := hP
          refine e_al (n := ((5 * a) + b).toNatClampNeg) (w := .int (gI h 435 (((5 * a) + b).toNatClampNeg))) (pc' := 42) i175_41 rfl (x_alX (a := 20) (by decide) hn sh435 (by decide) g6) rfl rfl ?_
          refine e_go i175_42 ?_
          refine e_rt i175_46 rfl ?_
          exact ⟨by unfold F175; simp only [if_neg (show ¬ ((gI h 397 40) = 0) from (of_decide_eq_false c1)), if_pos c2, if_neg (show ¬ ((gI h 436 a.toNatClampNeg) = 0) from (of_decide_eq_false c4)), if_pos c5], rfl⟩
