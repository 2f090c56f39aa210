/-! The reference's methods without loops, as functions. -/
/-- FloorTurnModel.offered(II)I -/
def F156 (a : Int32) (b : Int32) (h : Hp) : Int32 := if (gI h 405 b.toNatClampNeg) = 6 then (if (gI h 414 (((144 * a) + b).toNatClampNeg)) ≤ 0 then (0) else (gI h 400 ((gI h 407 b.toNatClampNeg).toNatClampNeg))) else (gI h 412 (((144 * a) + b).toNatClampNeg))
def P156 (a : Int32) (b : Int32) (h : Hp) : Prop := (vp_in b 144) ∧ ((((gI h 405 b.toNatClampNeg) = 6) → ((vp_in ((144 * a) + b) 432) ∧ ((((gI h 414 (((144 * a) + b).toNatClampNeg)) ≤ 0) → (True)) ∧ (¬ ((gI h 414 (((144 * a) + b).toNatClampNeg)) ≤ 0) → ((vp_in b 144) ∧ ((vp_in (gI h 407 b.toNatClampNeg) 8) ∧ (True))))))) ∧ (¬ ((gI h 405 b.toNatClampNeg) = 6) → ((vp_in ((144 * a) + b) 432) ∧ (True))))
set_option maxHeartbeats 8000000 in
theorem m156 {L : Nat} {xs : Nat → Int32} {h : Hp} {a : Int32} {b : Int32} (hn : 444 ≤ h.1) (hL : LK h) (hP : P156 a b h) : Sp L xs 156 [.ref 397, .int a, .int b] h (some (.int (F156 a b h))) h := by
  unfold P156 at hP
  refine sp_of (ls := [some (.ref 397), some (.int a), some (.int b)]) rfl ?_
  refine e_ld (pc' := 1) i156_0 rfl rfl ?_
  refine e_get (w := .ref 405) (pc' := 4) i156_1 rfl (x_isC (by decide) hn sh397) (x_fvR (by decide +kernel) (hL 397 8 405 lk397_8)) ?_
  refine e_ld (pc' := 5) i156_4 rfl rfl ?_
  obtain ⟨g1, hP⟩ := hP
  refine e_al (n := b.toNatClampNeg) (w := .int (gI h 405 b.toNatClampNeg)) (pc' := 6) i156_5 rfl (x_alX (a := 20) (by decide) hn sh405 (by decide) g1) rfl rfl ?_
  refine e_cn (pc' := 8) i156_6 rfl ?_
  refine e_ic (pc' := 11) i156_8 rfl (fun c2 => ?_) (fun c2 => ?_)
  · replace hP := hP.2 (of_decide_eq_true c2)
    refine e_ld (pc' := 45) i156_44 rfl rfl ?_
    refine e_get (w := .ref 412) (pc' := 48) i156_45 rfl (x_isC (by decide) hn sh397) (x_fvR (by decide +kernel) (hL 397 16 412 lk397_16)) ?_
    refine e_cn (pc' := 51) i156_48 rfl ?_
    refine e_ld (pc' := 52) i156_51 rfl rfl ?_
    refine e_ib (z := 144 * a) (pc' := 53) i156_52 rfl rfl ?_
    refine e_ld (pc' := 54) i156_53 rfl rfl ?_
    refine e_ib (z := (144 * a) + b) (pc' := 55) i156_54 rfl rfl ?_
    obtain ⟨g3, hP⟩ := hP
    refine e_al (n := ((144 * a) + b).toNatClampNeg) (w := .int (gI h 412 (((144 * a) + b).toNatClampNeg))) (pc' := 56) i156_55 rfl (x_alX (a := 20) (by decide) hn sh412 (by decide) g3) rfl rfl ?_
    refine e_rt i156_56 rfl ?_
    exact ⟨by unfold F156; simp only [if_neg (show ¬ ((gI h 405 b.toNatClampNeg) = 6) from (of_decide_eq_true c2))], rfl⟩
  · replace hP := hP.1 (Decidable.not_not.mp (of_decide_eq_false c2))
    refine e_ld (pc' := 12) i156_11 rfl rfl ?_
    refine e_get (w := .ref 414) (pc' := 15) i156_12 rfl (x_isC (by decide) hn sh397) (x_fvR (by decide +kernel) (hL 397 18 414 lk397_18)) ?_
    refine e_cn (pc' := 18) i156_15 rfl ?_
    refine e_ld (pc' := 19) i156_18 rfl rfl ?_
    refine e_ib (z := 144 * a) (pc' := 20) i156_19 rfl rfl ?_
    refine e_ld (pc' := 21) i156_20 rfl rfl ?_
    refine e_ib (z := (144 * a) + b) (pc' := 22) i156_21 rfl rfl ?_
    obtain ⟨g4, hP⟩ := hP
    refine e_al (n := ((144 * a) + b).toNatClampNeg) (w := .int (gI h 414 (((144 * a) + b).toNatClampNeg))) (pc' := 23) i156_22 rfl (x_alX (a := 20) (by decide) hn sh414 (by decide) g4) rfl rfl ?_
    refine e_if (pc' := 26) i156_23 rfl (fun c5 => ?_) (fun c5 => ?_)
    · replace hP := hP.1 (of_decide_eq_true c5)
      refine e_cn (pc' := 41) i156_40 rfl ?_
      refine e_go i156_41 ?_
      refine e_rt i156_56 rfl ?_
      exact ⟨by unfold F156; simp only [if_pos (show (gI h 405 b.toNatClampNeg) = 6 from (Decidable.not_not.mp (of_decide_eq_false c2))), if_pos (show (gI h 414 (((144 * a) + b).toNatClampNeg)) ≤ 0 from (of_decide_eq_true c5))], rfl⟩
    · replace hP := hP.2 (of_decide_eq_false c5)
      refine e_ld (pc' := 27) i156_26 rfl rfl ?_
      refine e_get (w := .ref 400) (pc' := 30) i156_27 rfl (x_isC (by decide) hn sh397) (x_fvR (by decide +kernel) (hL 397 3 400 lk397_3)) ?_
      refine e_ld (pc' := 31) i156_30 rfl rfl ?_
      refine e_get (w := .ref 407) (pc' := 34) i156_31 rfl (x_isC (by decide) hn sh397) (x_fvR (by decide +kernel) (hL 397 10 407 lk397_10)) ?_
      refine e_ld (pc' := 35) i156_34 rfl rfl ?_
      obtain ⟨g6, hP⟩ := hP
      refine e_al (n := b.toNatClampNeg) (w := .int (gI h 407 b.toNatClampNeg)) (pc' := 36) i156_35 rfl (x_alX (a := 20) (by decide) hn sh407 (by decide) g6) rfl rfl ?_
      obtain ⟨g7, hP⟩ := hP
      refine e_al (n := (gI h 407 b.toNatClampNeg).toNatClampNeg) (w := .int (gI h 400 ((gI h 407 b.toNatClampNeg).toNatClampNeg))) (pc' := 37) i156_36 rfl (x_alX (a := 20) (by decide) hn sh400 (by decide) g7) rfl rfl ?_
      refine e_go i156_37 ?_
      refine e_rt i156_56 rfl ?_
      exact ⟨by unfold F156; simp only [if_pos (show (gI h 405 b.toNatClampNeg) = 6 from (Decidable.not_not.mp (of_decide_eq_false c2))), if_neg (show ¬ ((gI h 414 (((144 * a) + b).toNatClampNeg)) ≤ 0) from (of_decide_eq_false c5))], rfl⟩
/-- FloorTurnModel.hasRoom(III)Z -/
def F158 (a : Int32) (b : Int32) (c : Int32) (h : Hp) : Bool := if (gI h 402 ((2 * b).toNatClampNeg)) = c then (if (2 * (gI h 403 ((2 * b).toNatClampNeg))) ≤ (gI h 417 ((2 * a).toNatClampNeg)) then (false) else (true)) else (if (gI h 402 (((2 * b) + 1).toNatClampNeg)) = c then (if (2 * (gI h 403 (((2 * b) + 1).toNatClampNeg))) ≤ (gI h 417 (((2 * a) + 1).toNatClampNeg)) then (false) else (true)) else (false))
def P158 (a : Int32) (b : Int32) (c : Int32) (h : Hp) : Prop := (vp_in (2 * b) 16) ∧ ((((gI h 402 ((2 * b).toNatClampNeg)) = c) → ((vp_in (2 * a) 864) ∧ ((vp_in (2 * b) 16) ∧ ((((2 * (gI h 403 ((2 * b).toNatClampNeg))) ≤ (gI h 417 ((2 * a).toNatClampNeg))) → (True)) ∧ (¬ ((2 * (gI h 403 ((2 * b).toNatClampNeg))) ≤ (gI h 417 ((2 * a).toNatClampNeg))) → (True)))))) ∧ (¬ ((gI h 402 ((2 * b).toNatClampNeg)) = c) → ((vp_in ((2 * b) + 1) 16) ∧ ((((gI h 402 (((2 * b) + 1).toNatClampNeg)) = c) → ((vp_in ((2 * a) + 1) 864) ∧ ((vp_in ((2 * b) + 1) 16) ∧ ((((2 * (gI h 403 (((2 * b) + 1).toNatClampNeg))) ≤ (gI h 417 (((2 * a) + 1).toNatClampNeg))) → (True)) ∧ (¬ ((2 * (gI h 403 (((2 * b) + 1).toNatClampNeg))) ≤ (gI h 417 (((2 * a) + 1).toNatClampNeg))) → (True)))))) ∧ (¬ ((gI h 402 (((2 * b) + 1).toNatClampNeg)) = c) → (True))))))
set_option maxHeartbeats 8000000 in
theorem m158 {L : Nat} {xs : Nat → Int32} {h : Hp} {a : Int32} {b : Int32} {c : Int32} (hn : 444 ≤ h.1) (hL : LK h) (hP : P158 a b c h) : Sp L xs 158 [.ref 397, .int a, .int b, .int c] h (some (.int (b2i (F158 a b c h)))) h := by
  unfold P158 at hP
  refine sp_of (ls := [some (.ref 397), some (.int a), some (.int b), some (.int c)]) rfl ?_
  refine e_ld (pc' := 1) i158_0 rfl rfl ?_
  refine e_get (w := .ref 402) (pc' := 4) i158_1 rfl (x_isC (by decide) hn sh397) (x_fvR (by decide +kernel) (hL 397 5 402 lk397_5)) ?_
  refine e_cn (pc' := 5) i158_4 rfl ?_
  refine e_ld (pc' := 6) i158_5 rfl rfl ?_
  refine e_ib (z := 2 * b) (pc' := 7) i158_6 rfl rfl ?_
  obtain ⟨g1, hP⟩ := hP
  refine e_al (n := (2 * b).toNatClampNeg) (w := .int (gI h 402 ((2 * b).toNatClampNeg))) (pc' := 8) i158_7 rfl (x_alX (a := 20) (by decide) hn sh402 (by decide) g1) rfl rfl ?_
  refine e_ld (pc' := 9) i158_8 rfl rfl ?_
  refine e_ic (pc' := 12) i158_9 rfl (fun c2 => ?_) (fun c2 => ?_)
  · replace hP := hP.2 (of_decide_eq_true c2)
    refine e_ld (pc' := 42) i158_41 rfl rfl ?_
    refine e_get (w := .ref 402) (pc' := 45) i158_42 rfl (x_isC (by decide) hn sh397) (x_fvR (by decide +kernel) (hL 397 5 402 lk397_5)) ?_
    refine e_cn (pc' := 46) i158_45 rfl ?_
    refine e_ld (pc' := 47) i158_46 rfl rfl ?_
    refine e_ib (z := 2 * b) (pc' := 48) i158_47 rfl rfl ?_
    refine e_cn (pc' := 49) i158_48 rfl ?_
    refine e_ib (z := (2 * b) + 1) (pc' := 50) i158_49 rfl rfl ?_
    obtain ⟨g3, hP⟩ := hP
    refine e_al (n := ((2 * b) + 1).toNatClampNeg) (w := .int (gI h 402 (((2 * b) + 1).toNatClampNeg))) (pc' := 51) i158_50 rfl (x_alX (a := 20) (by decide) hn sh402 (by decide) g3) rfl rfl ?_
    refine e_ld (pc' := 52) i158_51 rfl rfl ?_
    refine e_ic (pc' := 55) i158_52 rfl (fun c4 => ?_) (fun c4 => ?_)
    · replace hP := hP.2 (of_decide_eq_true c4)
      refine e_cn (pc' := 85) i158_84 rfl ?_
      refine e_rt i158_85 rfl ?_
      exact ⟨by unfold F158; simp only [if_neg (show ¬ ((gI h 402 ((2 * b).toNatClampNeg)) = c) from (of_decide_eq_true c2)), if_neg (show ¬ ((gI h 402 (((2 * b) + 1).toNatClampNeg)) = c) from (of_decide_eq_true c4))]; rfl, rfl⟩
    · replace hP := hP.1 (Decidable.not_not.mp (of_decide_eq_false c4))
      refine e_ld (pc' := 56) i158_55 rfl rfl ?_
      refine e_get (w := .ref 417) (pc' := 59) i158_56 rfl (x_isC (by decide) hn sh397) (x_fvR (by decide +kernel) (hL 397 21 417 lk397_21)) ?_
      refine e_cn (pc' := 60) i158_59 rfl ?_
      refine e_ld (pc' := 61) i158_60 rfl rfl ?_
      refine e_ib (z := 2 * a) (pc' := 62) i158_61 rfl rfl ?_
      refine e_cn (pc' := 63) i158_62 rfl ?_
      refine e_ib (z := (2 * a) + 1) (pc' := 64) i158_63 rfl rfl ?_
      obtain ⟨g5, hP⟩ := hP
      refine e_al (n := ((2 * a) + 1).toNatClampNeg) (w := .int (gI h 417 (((2 * a) + 1).toNatClampNeg))) (pc' := 65) i158_64 rfl (x_alX (a := 20) (by decide) hn sh417 (by decide) g5) rfl rfl ?_
      refine e_cn (pc' := 66) i158_65 rfl ?_
      refine e_ld (pc' := 67) i158_66 rfl rfl ?_
      refine e_get (w := .ref 403) (pc' := 70) i158_67 rfl (x_isC (by decide) hn sh397) (x_fvR (by decide +kernel) (hL 397 6 403 lk397_6)) ?_
      refine e_cn (pc' := 71) i158_70 rfl ?_
      refine e_ld (pc' := 72) i158_71 rfl rfl ?_
      refine e_ib (z := 2 * b) (pc' := 73) i158_72 rfl rfl ?_
      refine e_cn (pc' := 74) i158_73 rfl ?_
      refine e_ib (z := (2 * b) + 1) (pc' := 75) i158_74 rfl rfl ?_
      obtain ⟨g6, hP⟩ := hP
      refine e_al (n := ((2 * b) + 1).toNatClampNeg) (w := .int (gI h 403 (((2 * b) + 1).toNatClampNeg))) (pc' := 76) i158_75 rfl (x_alX (a := 20) (by decide) hn sh403 (by decide) g6) rfl rfl ?_
      refine e_ib (z := 2 * (gI h 403 (((2 * b) + 1).toNatClampNeg))) (pc' := 77) i158_76 rfl rfl ?_
      refine e_ic (pc' := 80) i158_77 rfl (fun c7 => ?_) (fun c7 => ?_)
      · replace hP := hP.1 (of_decide_eq_true c7)
        refine e_cn (pc' := 85) i158_84 rfl ?_
        refine e_rt i158_85 rfl ?_
        exact ⟨by unfold F158; simp only [if_neg (show ¬ ((gI h 402 ((2 * b).toNatClampNeg)) = c) from (of_decide_eq_true c2)), if_pos (show (gI h 402 (((2 * b) + 1).toNatClampNeg)) = c from (Decidable.not_not.mp (of_decide_eq_false c4))), if_pos (show (2 * (gI h 403 (((2 * b) + 1).toNatClampNeg))) ≤ (gI h 417 (((2 * a) + 1).toNatClampNeg)) from (of_decide_eq_true c7))]; rfl, rfl⟩
      · replace hP := hP.2 (of_decide_eq_false c7)
        refine e_cn (pc' := 81) i158_80 rfl ?_
        refine e_go i158_81 ?_
        refine e_rt i158_85 rfl ?_
        exact ⟨by unfold F158; simp only [if_neg (show ¬ ((gI h 402 ((2 * b).toNatClampNeg)) = c) from (of_decide_eq_true c2)), if_pos (show (gI h 402 (((2 * b) + 1).toNatClampNeg)) = c from (Decidable.not_not.mp (of_decide_eq_false c4))), if_neg (show ¬ ((2 * (gI h 403 (((2 * b) + 1).toNatClampNeg))) ≤ (gI h 417 (((2 * a) + 1).toNatClampNeg))) from (of_decide_eq_false c7))]; rfl, rfl⟩
  · replace hP := hP.1 (Decidable.not_not.mp (of_decide_eq_false c2))
    refine e_ld (pc' := 13) i158_12 rfl rfl ?_
    refine e_get (w := .ref 417) (pc' := 16) i158_13 rfl (x_isC (by decide) hn sh397) (x_fvR (by decide +kernel) (hL 397 21 417 lk397_21)) ?_
    refine e_cn (pc' := 17) i158_16 rfl ?_
    refine e_ld (pc' := 18) i158_17 rfl rfl ?_
    refine e_ib (z := 2 * a) (pc' := 19) i158_18 rfl rfl ?_
    obtain ⟨g8, hP⟩ := hP
    refine e_al (n := (2 * a).toNatClampNeg) (w := .int (gI h 417 ((2 * a).toNatClampNeg))) (pc' := 20) i158_19 rfl (x_alX (a := 20) (by decide) hn sh417 (by decide) g8) rfl rfl ?_
    refine e_cn (pc' := 21) i158_20 rfl ?_
    refine e_ld (pc' := 22) i158_21 rfl rfl ?_
    refine e_get (w := .ref 403) (pc' := 25) i158_22 rfl (x_isC (by decide) hn sh397) (x_fvR (by decide +kernel) (hL 397 6 403 lk397_6)) ?_
    refine e_cn (pc' := 26) i158_25 rfl ?_
    refine e_ld (pc' := 27) i158_26 rfl rfl ?_
    refine e_ib (z := 2 * b) (pc' := 28) i158_27 rfl rfl ?_
    obtain ⟨g9, hP⟩ := hP
    refine e_al (n := (2 * b).toNatClampNeg) (w := .int (gI h 403 ((2 * b).toNatClampNeg))) (pc' := 29) i158_28 rfl (x_alX (a := 20) (by decide) hn sh403 (by decide) g9) rfl rfl ?_
    refine e_ib (z := 2 * (gI h 403 ((2 * b).toNatClampNeg))) (pc' := 30) i158_29 rfl rfl ?_
    refine e_ic (pc' := 33) i158_30 rfl (fun c10 => ?_) (fun c10 => ?_)
    · replace hP := hP.1 (of_decide_eq_true c10)
      refine e_cn (pc' := 38) i158_37 rfl ?_
      refine e_go i158_38 ?_
      refine e_rt i158_85 rfl ?_
      exact ⟨by unfold F158; simp only [if_pos (show (gI h 402 ((2 * b).toNatClampNeg)) = c from (Decidable.not_not.mp (of_decide_eq_false c2))), if_pos (show (2 * (gI h 403 ((2 * b).toNatClampNeg))) ≤ (gI h 417 ((2 * a).toNatClampNeg)) from (of_decide_eq_true c10))]; rfl, rfl⟩
    · replace hP := hP.2 (of_decide_eq_false c10)
      refine e_cn (pc' := 34) i158_33 rfl ?_
      refine e_go i158_34 ?_
      refine e_rt i158_85 rfl ?_
      exact ⟨by unfold F158; simp only [if_pos (show (gI h 402 ((2 * b).toNatClampNeg)) = c from (Decidable.not_not.mp (of_decide_eq_false c2))), if_neg (show ¬ ((2 * (gI h 403 ((2 * b).toNatClampNeg))) ≤ (gI h 417 ((2 * a).toNatClampNeg))) from (of_decide_eq_false c10))]; rfl, rfl⟩
/-- FloorTurnModel.takes(IIIII)Z -/
def F157 (a : Int32) (b : Int32) (c : Int32) (d : Int32) (e : Int32) (h : Hp) : Bool := if (gI h 405 b.toNatClampNeg) = 1 then (if (gI h 412 (((144 * a) + b).toNatClampNeg)) = 0 then (if (gI h 406 b.toNatClampNeg) = d then (false) else (true)) else (false)) else (if (gI h 405 b.toNatClampNeg) = 2 then (if (gI h 412 (((144 * a) + b).toNatClampNeg)) = 0 then (if (gI h 406 b.toNatClampNeg) = d then (false) else (true)) else (false)) else (if (gI h 405 b.toNatClampNeg) = 3 then (if (gI h 412 (((144 * a) + b).toNatClampNeg)) = 0 then (if (gI h 405 e.toNatClampNeg) = 2 then (if (gI h 406 e.toNatClampNeg) = (gI h 406 b.toNatClampNeg) then (true) else (false)) else (false)) else (false)) else (if (gI h 405 b.toNatClampNeg) = 4 then (if (gI h 412 (((144 * a) + b).toNatClampNeg)) = 0 then (if (((gI h 406 b.toNatClampNeg) >>> ((d : Int32) &&& 31)) &&& 1) = 0 then (true) else (false)) else (false)) else (if (gI h 405 b.toNatClampNeg) = 5 then (false) else (if (gI h 405 b.toNatClampNeg) = 6 then (if (gI h 406 b.toNatClampNeg) = d then (false) else (if (F158 ((144 * a) + b) (gI h 407 b.toNatClampNeg) c h) = true then (true) else (false))) else (if (gI h 405 b.toNatClampNeg) = 7 then (true) else (false)))))))
def P157 (a : Int32) (b : Int32) (c : Int32) (d : Int32) (e : Int32) (h : Hp) : Prop := (vp_in b 144) ∧ ((((gI h 405 b.toNatClampNeg) = 1) → ((vp_in ((144 * a) + b) 432) ∧ ((((gI h 412 (((144 * a) + b).toNatClampNeg)) = 0) → ((vp_in b 144) ∧ ((((gI h 406 b.toNatClampNeg) = d) → (True)) ∧ (¬ ((gI h 406 b.toNatClampNeg) = d) → (True))))) ∧ (¬ ((gI h 412 (((144 * a) + b).toNatClampNeg)) = 0) → (True))))) ∧ (¬ ((gI h 405 b.toNatClampNeg) = 1) → ((((gI h 405 b.toNatClampNeg) = 2) → ((vp_in ((144 * a) + b) 432) ∧ ((((gI h 412 (((144 * a) + b).toNatClampNeg)) = 0) → ((vp_in b 144) ∧ ((((gI h 406 b.toNatClampNeg) = d) → (True)) ∧ (¬ ((gI h 406 b.toNatClampNeg) = d) → (True))))) ∧ (¬ ((gI h 412 (((144 * a) + b).toNatClampNeg)) = 0) → (True))))) ∧ (¬ ((gI h 405 b.toNatClampNeg) = 2) → ((((gI h 405 b.toNatClampNeg) = 3) → ((vp_in ((144 * a) + b) 432) ∧ ((((gI h 412 (((144 * a) + b).toNatClampNeg)) = 0) → ((vp_in e 144) ∧ ((((gI h 405 e.toNatClampNeg) = 2) → ((vp_in e 144) ∧ ((vp_in b 144) ∧ ((((gI h 406 e.toNatClampNeg) = (gI h 406 b.toNatClampNeg)) → (True)) ∧ (¬ ((gI h 406 e.toNatClampNeg) = (gI h 406 b.toNatClampNeg)) → (True)))))) ∧ (¬ ((gI h 405 e.toNatClampNeg) = 2) → (True))))) ∧ (¬ ((gI h 412 (((144 * a) + b).toNatClampNeg)) = 0) → (True))))) ∧ (¬ ((gI h 405 b.toNatClampNeg) = 3) → ((((gI h 405 b.toNatClampNeg) = 4) → ((vp_in ((144 * a) + b) 432) ∧ ((((gI h 412 (((144 * a) + b).toNatClampNeg)) = 0) → ((vp_in b 144) ∧ ((((((gI h 406 b.toNatClampNeg) >>> ((d : Int32) &&& 31)) &&& 1) = 0) → (True)) ∧ (¬ ((((gI h 406 b.toNatClampNeg) >>> ((d : Int32) &&& 31)) &&& 1) = 0) → (True))))) ∧ (¬ ((gI h 412 (((144 * a) + b).toNatClampNeg)) = 0) → (True))))) ∧ (¬ ((gI h 405 b.toNatClampNeg) = 4) → ((((gI h 405 b.toNatClampNeg) = 5) → (True)) ∧ (¬ ((gI h 405 b.toNatClampNeg) = 5) → ((((gI h 405 b.toNatClampNeg) = 6) → ((vp_in b 144) ∧ ((((gI h 406 b.toNatClampNeg) = d) → (True)) ∧ (¬ ((gI h 406 b.toNatClampNeg) = d) → ((vp_in b 144) ∧ ((P158 ((144 * a) + b) (gI h 407 b.toNatClampNeg) c h) ∧ ((((F158 ((144 * a) + b) (gI h 407 b.toNatClampNeg) c h) = true) → (True)) ∧ (¬ ((F158 ((144 * a) + b) (gI h 407 b.toNatClampNeg) c h) = true) → (True))))))))) ∧ (¬ ((gI h 405 b.toNatClampNeg) = 6) → ((((gI h 405 b.toNatClampNeg) = 7) → (True)) ∧ (¬ ((gI h 405 b.toNatClampNeg) = 7) → (True)))))))))))))))
set_option maxHeartbeats 8000000 in
theorem m157 {L : Nat} {xs : Nat → Int32} {h : Hp} {a : Int32} {b : Int32} {c : Int32} {d : Int32} {e : Int32} (hn : 444 ≤ h.1) (hL : LK h) (hP : P157 a b c d e h) : Sp L xs 157 [.ref 397, .int a, .int b, .int c, .int d, .int e] h (some (.int (b2i (F157 a b c d e h)))) h := by
  unfold P157 at hP
  refine sp_of (ls := [some (.ref 397), some (.int a), some (.int b), some (.int c), some (.int d), some (.int e), none]) rfl ?_
  refine e_cn (pc' := 3) i157_0 rfl ?_
  refine e_ld (pc' := 4) i157_3 rfl rfl ?_
  refine e_ib (z := 144 * a) (pc' := 5) i157_4 rfl rfl ?_
  refine e_ld (pc' := 6) i157_5 rfl rfl ?_
  refine e_ib (z := (144 * a) + b) (pc' := 7) i157_6 rfl rfl ?_
  refine e_st (ls' := [some (.ref 397), some (.int a), some (.int b), some (.int c), some (.int d), some (.int e), some (.int ((144 * a) + b))]) (pc' := 9) i157_7 rfl rfl rfl ?_
  refine e_ld (pc' := 10) i157_9 rfl rfl ?_
  refine e_get (w := .ref 405) (pc' := 13) i157_10 rfl (x_isC (by decide) hn sh397) (x_fvR (by decide +kernel) (hL 397 8 405 lk397_8)) ?_
  refine e_ld (pc' := 14) i157_13 rfl rfl ?_
  obtain ⟨g1, hP⟩ := hP
  refine e_al (n := b.toNatClampNeg) (w := .int (gI h 405 b.toNatClampNeg)) (pc' := 15) i157_14 rfl (x_alX (a := 20) (by decide) hn sh405 (by decide) g1) rfl rfl ?_
  by_cases c2 : (gI h 405 b.toNatClampNeg) = 1
  · replace hP := hP.1 c2
    refine e_tab (pc' := 56) i157_15 (by rw [c2]; rfl) ?_
    refine e_ld (pc' := 57) i157_56 rfl rfl ?_
    refine e_get (w := .ref 412) (pc' := 60) i157_57 rfl (x_isC (by decide) hn sh397) (x_fvR (by decide +kernel) (hL 397 16 412 lk397_16)) ?_
    refine e_ld (pc' := 62) i157_60 rfl rfl ?_
    obtain ⟨g3, hP⟩ := hP
    refine e_al (n := ((144 * a) + b).toNatClampNeg) (w := .int (gI h 412 (((144 * a) + b).toNatClampNeg))) (pc' := 63) i157_62 rfl (x_alX (a := 20) (by decide) hn sh412 (by decide) g3) rfl rfl ?_
    refine e_if (pc' := 66) i157_63 rfl (fun c4 => ?_) (fun c4 => ?_)
    · replace hP := hP.2 (of_decide_eq_true c4)
      refine e_cn (pc' := 82) i157_81 rfl ?_
      refine e_rt i157_82 rfl ?_
      exact ⟨by unfold F157; simp only [if_pos c2, if_neg (show ¬ ((gI h 412 (((144 * a) + b).toNatClampNeg)) = 0) from (of_decide_eq_true c4))]; rfl, rfl⟩
    · replace hP := hP.1 (Decidable.not_not.mp (of_decide_eq_false c4))
      refine e_ld (pc' := 67) i157_66 rfl rfl ?_
      refine e_get (w := .ref 406) (pc' := 70) i157_67 rfl (x_isC (by decide) hn sh397) (x_fvR (by decide +kernel) (hL 397 9 406 lk397_9)) ?_
      refine e_ld (pc' := 71) i157_70 rfl rfl ?_
      obtain ⟨g5, hP⟩ := hP
      refine e_al (n := b.toNatClampNeg) (w := .int (gI h 406 b.toNatClampNeg)) (pc' := 72) i157_71 rfl (x_alX (a := 20) (by decide) hn sh406 (by decide) g5) rfl rfl ?_
      refine e_ld (pc' := 74) i157_72 rfl rfl ?_
      refine e_ic (pc' := 77) i157_74 rfl (fun c6 => ?_) (fun c6 => ?_)
      · replace hP := hP.1 (of_decide_eq_true c6)
        refine e_cn (pc' := 82) i157_81 rfl ?_
        refine e_rt i157_82 rfl ?_
        exact ⟨by unfold F157; simp only [if_pos c2, if_pos (show (gI h 412 (((144 * a) + b).toNatClampNeg)) = 0 from (Decidable.not_not.mp (of_decide_eq_false c4))), if_pos (show (gI h 406 b.toNatClampNeg) = d from (of_decide_eq_true c6))]; rfl, rfl⟩
      · replace hP := hP.2 (of_decide_eq_false c6)
        refine e_cn (pc' := 78) i157_77 rfl ?_
        refine e_go i157_78 ?_
        refine e_rt i157_82 rfl ?_
        exact ⟨by unfold F157; simp only [if_pos c2, if_pos (show (gI h 412 (((144 * a) + b).toNatClampNeg)) = 0 from (Decidable.not_not.mp (of_decide_eq_false c4))), if_neg (show ¬ ((gI h 406 b.toNatClampNeg) = d) from (of_decide_eq_false c6))]; rfl, rfl⟩
  · replace hP := hP.2 c2
    by_cases c7 : (gI h 405 b.toNatClampNeg) = 2
    · replace hP := hP.1 c7
      refine e_tab (pc' := 56) i157_15 (by rw [c7]; rfl) ?_
      refine e_ld (pc' := 57) i157_56 rfl rfl ?_
      refine e_get (w := .ref 412) (pc' := 60) i157_57 rfl (x_isC (by decide) hn sh397) (x_fvR (by decide +kernel) (hL 397 16 412 lk397_16)) ?_
      refine e_ld (pc' := 62) i157_60 rfl rfl ?_
      obtain ⟨g8, hP⟩ := hP
      refine e_al (n := ((144 * a) + b).toNatClampNeg) (w := .int (gI h 412 (((144 * a) + b).toNatClampNeg))) (pc' := 63) i157_62 rfl (x_alX (a := 20) (by decide) hn sh412 (by decide) g8) rfl rfl ?_
      refine e_if (pc' := 66) i157_63 rfl (fun c9 => ?_) (fun c9 => ?_)
      · replace hP := hP.2 (of_decide_eq_true c9)
        refine e_cn (pc' := 82) i157_81 rfl ?_
        refine e_rt i157_82 rfl ?_
        exact ⟨by unfold F157; simp only [if_neg c2, if_pos c7, if_neg (show ¬ ((gI h 412 (((144 * a) + b).toNatClampNeg)) = 0) from (of_decide_eq_true c9))]; rfl, rfl⟩
      · replace hP := hP.1 (Decidable.not_not.mp (of_decide_eq_false c9))
        refine e_ld (pc' := 67) i157_66 rfl rfl ?_
        refine e_get (w := .ref 406) (pc' := 70) i157_67 rfl (x_isC (by decide) hn sh397) (x_fvR (by decide +kernel) (hL 397 9 406 lk397_9)) ?_
        refine e_ld (pc' := 71) i157_70 rfl rfl ?_
        obtain ⟨g10, hP⟩ := hP
        refine e_al (n := b.toNatClampNeg) (w := .int (gI h 406 b.toNatClampNeg)) (pc' := 72) i157_71 rfl (x_alX (a := 20) (by decide) hn sh406 (by decide) g10) rfl rfl ?_
        refine e_ld (pc' := 74) i157_72 rfl rfl ?_
        refine e_ic (pc' := 77) i157_74 rfl (fun c11 => ?_) (fun c11 => ?_)
        · replace hP := hP.1 (of_decide_eq_true c11)
          refine e_cn (pc' := 82) i157_81 rfl ?_
          refine e_rt i157_82 rfl ?_
          exact ⟨by unfold F157; simp only [if_neg c2, if_pos c7, if_pos (show (gI h 412 (((144 * a) + b).toNatClampNeg)) = 0 from (Decidable.not_not.mp (of_decide_eq_false c9))), if_pos (show (gI h 406 b.toNatClampNeg) = d from (of_decide_eq_true c11))]; rfl, rfl⟩
        · replace hP := hP.2 (of_decide_eq_false c11)
          refine e_cn (pc' := 78) i157_77 rfl ?_
          refine e_go i157_78 ?_
          refine e_rt i157_82 rfl ?_
          exact ⟨by unfold F157; simp only [if_neg c2, if_pos c7, if_pos (show (gI h 412 (((144 * a) + b).toNatClampNeg)) = 0 from (Decidable.not_not.mp (of_decide_eq_false c9))), if_neg (show ¬ ((gI h 406 b.toNatClampNeg) = d) from (of_decide_eq_false c11))]; rfl, rfl⟩
    · replace hP := hP.2 c7
      by_cases c12 : (gI h 405 b.toNatClampNeg) = 3
      · replace hP := hP.1 c12
        refine e_tab (pc' := 83) i157_15 (by rw [c12]; rfl) ?_
        refine e_ld (pc' := 84) i157_83 rfl rfl ?_
        refine e_get (w := .ref 412) (pc' := 87) i157_84 rfl (x_isC (by decide) hn sh397) (x_fvR (by decide +kernel) (hL 397 16 412 lk397_16)) ?_
        refine e_ld (pc' := 89) i157_87 rfl rfl ?_
        obtain ⟨g13, hP⟩ := hP
        refine e_al (n := ((144 * a) + b).toNatClampNeg) (w := .int (gI h 412 (((144 * a) + b).toNatClampNeg))) (pc' := 90) i157_89 rfl (x_alX (a := 20) (by decide) hn sh412 (by decide) g13) rfl rfl ?_
        refine e_if (pc' := 93) i157_90 rfl (fun c14 => ?_) (fun c14 => ?_)
        · replace hP := hP.2 (of_decide_eq_true c14)
          refine e_cn (pc' := 125) i157_124 rfl ?_
          refine e_rt i157_125 rfl ?_
          exact ⟨by unfold F157; simp only [if_neg c2, if_neg c7, if_pos c12, if_neg (show ¬ ((gI h 412 (((144 * a) + b).toNatClampNeg)) = 0) from (of_decide_eq_true c14))]; rfl, rfl⟩
        · replace hP := hP.1 (Decidable.not_not.mp (of_decide_eq_false c14))
          refine e_ld (pc' := 94) i157_93 rfl rfl ?_
          refine e_get (w := .ref 405) (pc' := 97) i157_94 rfl (x_isC (by decide) hn sh397) (x_fvR (by decide +kernel) (hL 397 8 405 lk397_8)) ?_
          refine e_ld (pc' := 99) i157_97 rfl rfl ?_
          obtain ⟨g15, hP⟩ := hP
          refine e_al (n := e.toNatClampNeg) (w := .int (gI h 405 e.toNatClampNeg)) (pc' := 100) i157_99 rfl (x_alX (a := 20) (by decide) hn sh405 (by decide) g15) rfl rfl ?_
          refine e_cn (pc' := 101) i157_100 rfl ?_
          refine e_ic (pc' := 104) i157_101 rfl (fun c16 => ?_) (fun c16 => ?_)
          · replace hP := hP.2 (of_decide_eq_true c16)
            refine e_cn (pc' := 125) i157_124 rfl ?_
            refine e_rt i157_125 rfl ?_
            exact ⟨by unfold F157; simp only [if_neg c2, if_neg c7, if_pos c12, if_pos (show (gI h 412 (((144 * a) + b).toNatClampNeg)) = 0 from (Decidable.not_not.mp (of_decide_eq_false c14))), if_neg (show ¬ ((gI h 405 e.toNatClampNeg) = 2) from (of_decide_eq_true c16))]; rfl, rfl⟩
          · replace hP := hP.1 (Decidable.not_not.mp (of_decide_eq_false c16))
            refine e_ld (pc' := 105) i157_104 rfl rfl ?_
            refine e_get (w := .ref 406) (pc' := 108) i157_105 rfl (x_isC (by decide) hn sh397) (x_fvR (by decide +kernel) (hL 397 9 406 lk397_9)) ?_
            refine e_ld (pc' := 110) i157_108 rfl rfl ?_
            obtain ⟨g17, hP⟩ := hP
            refine e_al (n := e.toNatClampNeg) (w := .int (gI h 406 e.toNatClampNeg)) (pc' := 111) i157_110 rfl (x_alX (a := 20) (by decide) hn sh406 (by decide) g17) rfl rfl ?_
            refine e_ld (pc' := 112) i157_111 rfl rfl ?_
            refine e_get (w := .ref 406) (pc' := 115) i157_112 rfl (x_isC (by decide) hn sh397) (x_fvR (by decide +kernel) (hL 397 9 406 lk397_9)) ?_
            refine e_ld (pc' := 116) i157_115 rfl rfl ?_
            obtain ⟨g18, hP⟩ := hP
            refine e_al (n := b.toNatClampNeg) (w := .int (gI h 406 b.toNatClampNeg)) (pc' := 117) i157_116 rfl (x_alX (a := 20) (by decide) hn sh406 (by decide) g18) rfl rfl ?_
            refine e_ic (pc' := 120) i157_117 rfl (fun c19 => ?_) (fun c19 => ?_)
            · replace hP := hP.2 (of_decide_eq_true c19)
              refine e_cn (pc' := 125) i157_124 rfl ?_
              refine e_rt i157_125 rfl ?_
              exact ⟨by unfold F157; simp only [if_neg c2, if_neg c7, if_pos c12, if_pos (show (gI h 412 (((144 * a) + b).toNatClampNeg)) = 0 from (Decidable.not_not.mp (of_decide_eq_false c14))), if_pos (show (gI h 405 e.toNatClampNeg) = 2 from (Decidable.not_not.mp (of_decide_eq_false c16))), if_neg (show ¬ ((gI h 406 e.toNatClampNeg) = (gI h 406 b.toNatClampNeg)) from (of_decide_eq_true c19))]; rfl, rfl⟩
            · replace hP := hP.1 (Decidable.not_not.mp (of_decide_eq_false c19))
              refine e_cn (pc' := 121) i157_120 rfl ?_
              refine e_go i157_121 ?_
              refine e_rt i157_125 rfl ?_
              exact ⟨by unfold F157; simp only [if_neg c2, if_neg c7, if_pos c12, if_pos (show (gI h 412 (((144 * a) + b).toNatClampNeg)) = 0 from (Decidable.not_not.mp (of_decide_eq_false c14))), if_pos (show (gI h 405 e.toNatClampNeg) = 2 from (Decidable.not_not.mp (of_decide_eq_false c16))), if_pos (show (gI h 406 e.toNatClampNeg) = (gI h 406 b.toNatClampNeg) from (Decidable.not_not.mp (of_decide_eq_false c19)))]; rfl, rfl⟩
      · replace hP := hP.2 c12
        by_cases c20 : (gI h 405 b.toNatClampNeg) = 4
        · replace hP := hP.1 c20
          refine e_tab (pc' := 126) i157_15 (by rw [c20]; rfl) ?_
          refine e_ld (pc' := 127) i157_126 rfl rfl ?_
          refine e_get (w := .ref 412) (pc' := 130) i157_127 rfl (x_isC (by decide) hn sh397) (x_fvR (by decide +kernel) (hL 397 16 412 lk397_16)) ?_
          refine e_ld (pc' := 132) i157_130 rfl rfl ?_
          obtain ⟨g21, hP⟩ := hP
          refine e_al (n := ((144 * a) + b).toNatClampNeg) (w := .int (gI h 412 (((144 * a) + b).toNatClampNeg))) (pc' := 133) i157_132 rfl (x_alX (a := 20) (by decide) hn sh412 (by decide) g21) rfl rfl ?_
          refine e_if (pc' := 136) i157_133 rfl (fun c22 => ?_) (fun c22 => ?_)
          · replace hP := hP.2 (of_decide_eq_true c22)
            refine e_cn (pc' := 155) i157_154 rfl ?_
            refine e_rt i157_155 rfl ?_
            exact ⟨by unfold F157; simp only [if_neg c2, if_neg c7, if_neg c12, if_pos c20, if_neg (show ¬ ((gI h 412 (((144 * a) + b).toNatClampNeg)) = 0) from (of_decide_eq_true c22))]; rfl, rfl⟩
          · replace hP := hP.1 (Decidable.not_not.mp (of_decide_eq_false c22))
            refine e_ld (pc' := 137) i157_136 rfl rfl ?_
            refine e_get (w := .ref 406) (pc' := 140) i157_137 rfl (x_isC (by decide) hn sh397) (x_fvR (by decide +kernel) (hL 397 9 406 lk397_9)) ?_
            refine e_ld (pc' := 141) i157_140 rfl rfl ?_
            obtain ⟨g23, hP⟩ := hP
            refine e_al (n := b.toNatClampNeg) (w := .int (gI h 406 b.toNatClampNeg)) (pc' := 142) i157_141 rfl (x_alX (a := 20) (by decide) hn sh406 (by decide) g23) rfl rfl ?_
            refine e_ld (pc' := 144) i157_142 rfl rfl ?_
            refine e_ib (z := (gI h 406 b.toNatClampNeg) >>> ((d : Int32) &&& 31)) (pc' := 145) i157_144 rfl rfl ?_
            refine e_cn (pc' := 146) i157_145 rfl ?_
            refine e_ib (z := ((gI h 406 b.toNatClampNeg) >>> ((d : Int32) &&& 31)) &&& 1) (pc' := 147) i157_146 rfl rfl ?_
            refine e_if (pc' := 150) i157_147 rfl (fun c24 => ?_) (fun c24 => ?_)
            · replace hP := hP.2 (of_decide_eq_true c24)
              refine e_cn (pc' := 155) i157_154 rfl ?_
              refine e_rt i157_155 rfl ?_
              exact ⟨by unfold F157; simp only [if_neg c2, if_neg c7, if_neg c12, if_pos c20, if_pos (show (gI h 412 (((144 * a) + b).toNatClampNeg)) = 0 from (Decidable.not_not.mp (of_decide_eq_false c22))), if_neg (show ¬ ((((gI h 406 b.toNatClampNeg) >>> ((d : Int32) &&& 31)) &&& 1) = 0) from (of_decide_eq_true c24))]; rfl, rfl⟩
            · replace hP := hP.1 (Decidable.not_not.mp (of_decide_eq_false c24))
              refine e_cn (pc' := 151) i157_150 rfl ?_
              refine e_go i157_151 ?_
              refine e_rt i157_155 rfl ?_
              exact ⟨by unfold F157; simp only [if_neg c2, if_neg c7, if_neg c12, if_pos c20, if_pos (show (gI h 412 (((144 * a) + b).toNatClampNeg)) = 0 from (Decidable.not_not.mp (of_decide_eq_false c22))), if_pos (show (((gI h 406 b.toNatClampNeg) >>> ((d : Int32) &&& 31)) &&& 1) = 0 from (Decidable.not_not.mp (of_decide_eq_false c24)))]; rfl, rfl⟩
        · replace hP := hP.2 c20
          by_cases c25 : (gI h 405 b.toNatClampNeg) = 5
          · replace hP := hP.1 c25
            refine e_tab (pc' := 191) i157_15 (by rw [c25]; rfl) ?_
            refine e_cn (pc' := 192) i157_191 rfl ?_
            refine e_rt i157_192 rfl ?_
            exact ⟨by unfold F157; simp only [if_neg c2, if_neg c7, if_neg c12, if_neg c20, if_pos c25]; rfl, rfl⟩
          · replace hP := hP.2 c25
            by_cases c26 : (gI h 405 b.toNatClampNeg) = 6
            · replace hP := hP.1 c26
              refine e_tab (pc' := 156) i157_15 (by rw [c26]; rfl) ?_
              refine e_ld (pc' := 157) i157_156 rfl rfl ?_
              refine e_get (w := .ref 406) (pc' := 160) i157_157 rfl (x_isC (by decide) hn sh397) (x_fvR (by decide +kernel) (hL 397 9 406 lk397_9)) ?_
              refine e_ld (pc' := 161) i157_160 rfl rfl ?_
              obtain ⟨g27, hP⟩ := hP
              refine e_al (n := b.toNatClampNeg) (w := .int (gI h 406 b.toNatClampNeg)) (pc' := 162) i157_161 rfl (x_alX (a := 20) (by decide) hn sh406 (by decide) g27) rfl rfl ?_
              refine e_ld (pc' := 164) i157_162 rfl rfl ?_
              refine e_ic (pc' := 167) i157_164 rfl (fun c28 => ?_) (fun c28 => ?_)
              · replace hP := hP.1 (of_decide_eq_true c28)
                refine e_cn (pc' := 188) i157_187 rfl ?_
                refine e_rt i157_188 rfl ?_
                exact ⟨by unfold F157; simp only [if_neg c2, if_neg c7, if_neg c12, if_neg c20, if_neg c25, if_pos c26, if_pos (show (gI h 406 b.toNatClampNeg) = d from (of_decide_eq_true c28))]; rfl, rfl⟩
              · replace hP := hP.2 (of_decide_eq_false c28)
                refine e_ld (pc' := 168) i157_167 rfl rfl ?_
                refine e_ld (pc' := 170) i157_168 rfl rfl ?_
                refine e_ld (pc' := 171) i157_170 rfl rfl ?_
                refine e_get (w := .ref 407) (pc' := 174) i157_171 rfl (x_isC (by decide) hn sh397) (x_fvR (by decide +kernel) (hL 397 10 407 lk397_10)) ?_
                refine e_ld (pc' := 175) i157_174 rfl rfl ?_
                obtain ⟨g29, hP⟩ := hP
                refine e_al (n := b.toNatClampNeg) (w := .int (gI h 407 b.toNatClampNeg)) (pc' := 176) i157_175 rfl (x_alX (a := 20) (by decide) hn sh407 (by decide) g29) rfl rfl ?_
                refine e_ld (pc' := 177) i157_176 rfl rfl ?_
                obtain ⟨g30, hP⟩ := hP
                refine e_cI (w := .int (b2i (F158 ((144 * a) + b) (gI h 407 b.toNatClampNeg) c h))) (As := [.ref 397, .int ((144 * a) + b), .int (gI h 407 b.toNatClampNeg), .int c]) (rest := []) (pc' := 180) i157_177 rfl rfl rfl rfl (by show (Nat.beq (x_kd 158) 0 && x_is 397 _ (MC 158) 0) = true; rw [show x_kd 158 = 0 by decide +kernel, show MC 158 = 11 by decide +kernel, (x_isC (by decide) hn sh397)]; rfl) (m158 hn hL g30) ?_
                refine e_b0 (pc' := 183) i157_180 rfl (fun c31 => ?_) (fun c31 => ?_)
                · replace hP := hP.2 (show ¬ (F158 ((144 * a) + b) (gI h 407 b.toNatClampNeg) c h) = true by rw [c31]; decide)
                  refine e_cn (pc' := 188) i157_187 rfl ?_
                  refine e_rt i157_188 rfl ?_
                  exact ⟨by unfold F157; simp only [if_neg c2, if_neg c7, if_neg c12, if_neg c20, if_neg c25, if_pos c26, if_neg (show ¬ ((gI h 406 b.toNatClampNeg) = d) from (of_decide_eq_false c28)), if_neg (show ¬ (F158 ((144 * a) + b) (gI h 407 b.toNatClampNeg) c h) = true by rw [c31]; decide)]; rfl, rfl⟩
                · replace hP := hP.1 c31
                  refine e_cn (pc' := 184) i157_183 rfl ?_
                  refine e_go i157_184 ?_
                  refine e_rt i157_188 rfl ?_
                  exact ⟨by unfold F157; simp only [if_neg c2, if_neg c7, if_neg c12, if_neg c20, if_neg c25, if_pos c26, if_neg (show ¬ ((gI h 406 b.toNatClampNeg) = d) from (of_decide_eq_false c28)), if_pos c31]; rfl, rfl⟩
            · replace hP := hP.2 c26
              by_cases c32 : (gI h 405 b.toNatClampNeg) = 7
              · replace hP := hP.1 c32
                refine e_tab (pc' := 189) i157_15 (by rw [c32]; rfl) ?_
                refine e_cn (pc' := 190) i157_189 rfl ?_
                refine e_rt i157_190 rfl ?_
                exact ⟨by unfold F157; simp only [if_neg c2, if_neg c7, if_neg c12, if_neg c20, if_neg c25, if_neg c26, if_pos c32]; rfl, rfl⟩
              · replace hP := hP.2 c32
                replace hP := hP
                refine e_tab (pc' := 191) i157_15 (x_tgt_out (by decide) (fun k (hk : k < 7) => by rcases (show k = 0 ∨ k = 1 ∨ k = 2 ∨ k = 3 ∨ k = 4 ∨ k = 5 ∨ k = 6 by omega) with rfl | rfl | rfl | rfl | rfl | rfl | rfl <;> assumption)) ?_
                refine e_cn (pc' := 192) i157_191 rfl ?_
                refine e_rt i157_192 rfl ?_
                exact ⟨by unfold F157; simp only [if_neg c2, if_neg c7, if_neg c12, if_neg c20, if_neg c25, if_neg c26, if_neg c32]; rfl, rfl⟩
/-- FloorTurnModel.offers(IIIII)V -/
def G159 (a : Int32) (b : Int32) (c : Int32) (d : Int32) (e : Int32) (h : Hp) : Hp := if (gI h 427 c.toNatClampNeg) = (-1) then (sI (sI (sI h 427 c.toNatClampNeg b) 428 c.toNatClampNeg e) 429 c.toNatClampNeg d) else (if (gI h 428 c.toNatClampNeg) ≤ e then (h) else (sI (sI (sI h 427 c.toNatClampNeg b) 428 c.toNatClampNeg e) 429 c.toNatClampNeg d))
theorem n_G159 (a : Int32) (b : Int32) (c : Int32) (d : Int32) (e : Int32) (h : Hp) : (G159 a b c d e h).1 = h.1 := by
  unfold G159
  (repeat' split) <;> first | rfl | (simp only [n_sI, n_sL, n_sR])
theorem r_G159 (a : Int32) (b : Int32) (c : Int32) (d : Int32) (e : Int32) (h : Hp) : gR (G159 a b c d e h) = gR h := by
  unfold G159
  (repeat' split) <;> first | rfl | (simp only [gR_sI, gR_sL])
def P159 (a : Int32) (b : Int32) (c : Int32) (d : Int32) (e : Int32) (h : Hp) : Prop := (vp_in c 144) ∧ ((((gI h 427 c.toNatClampNeg) = (-1)) → ((vp_in c 144) ∧ ((vp_in c 144) ∧ ((vp_in c 144) ∧ (True))))) ∧ (¬ ((gI h 427 c.toNatClampNeg) = (-1)) → ((vp_in c 144) ∧ ((((gI h 428 c.toNatClampNeg) ≤ e) → (True)) ∧ (¬ ((gI h 428 c.toNatClampNeg) ≤ e) → ((vp_in c 144) ∧ ((vp_in c 144) ∧ ((vp_in c 144) ∧ (True)))))))))
set_option maxHeartbeats 8000000 in
theorem m159 {L : Nat} {xs : Nat → Int32} {h : Hp} {a : Int32} {b : Int32} {c : Int32} {d : Int32} {e : Int32} (hn : 444 ≤ h.1) (hL : LK h) (hP : P159 a b c d e h) : Sp L xs 159 [.ref 397, .int a, .int b, .int c, .int d, .int e] h none (G159 a b c d e h) := by
  unfold P159 at hP
  refine sp_of (ls := [some (.ref 397), some (.int a), some (.int b), some (.int c), some (.int d), some (.int e)]) rfl ?_
  refine e_ld (pc' := 1) i159_0 rfl rfl ?_
  refine e_get (w := .ref 427) (pc' := 4) i159_1 rfl (x_isC (by decide) hn sh397) (x_fvR (by decide +kernel) (hL 397 31 427 lk397_31)) ?_
  refine e_ld (pc' := 5) i159_4 rfl rfl ?_
  obtain ⟨g1, hP⟩ := hP
  refine e_al (n := c.toNatClampNeg) (w := .int (gI h 427 c.toNatClampNeg)) (pc' := 6) i159_5 rfl (x_alX (a := 20) (by decide) hn sh427 (by decide) g1) rfl rfl ?_
  refine e_cn (pc' := 7) i159_6 rfl ?_
  refine e_ic (pc' := 10) i159_7 rfl (fun c2 => ?_) (fun c2 => ?_)
  · replace hP := hP.1 (of_decide_eq_true c2)
    refine e_ld (pc' := 22) i159_21 rfl rfl ?_
    refine e_get (w := .ref 427) (pc' := 25) i159_22 rfl (x_isC (by decide) hn sh397) (x_fvR (by decide +kernel) (hL 397 31 427 lk397_31)) ?_
    refine e_ld (pc' := 26) i159_25 rfl rfl ?_
    refine e_ld (pc' := 27) i159_26 rfl rfl ?_
    obtain ⟨g3, hP⟩ := hP
    refine e_as (n := c.toNatClampNeg) (h' := sI h 427 c.toNatClampNeg b) (pc' := 28) i159_27 rfl (x_alX (a := 20) (by decide) hn sh427 (by decide) g3) rfl (by rw [show (SH 427).1 = 20 by rw [sh427]]; rfl) ?_
    have hn4 : 444 ≤ (sI h 427 c.toNatClampNeg b).1 := hn
    have hL4 : LK (sI h 427 c.toNatClampNeg b) := hL
    refine e_ld (pc' := 29) i159_28 rfl rfl ?_
    refine e_get (w := .ref 428) (pc' := 32) i159_29 rfl (x_isC (by decide) hn4 sh397) (x_fvR (by decide +kernel) (hL4 397 32 428 lk397_32)) ?_
    refine e_ld (pc' := 33) i159_32 rfl rfl ?_
    refine e_ld (pc' := 35) i159_33 rfl rfl ?_
    obtain ⟨g5, hP⟩ := hP
    refine e_as (n := c.toNatClampNeg) (h' := sI (sI h 427 c.toNatClampNeg b) 428 c.toNatClampNeg e) (pc' := 36) i159_35 rfl (x_alX (a := 20) (by decide) hn4 sh428 (by decide) g5) rfl (by rw [show (SH 428).1 = 20 by rw [sh428]]; rfl) ?_
    have hn6 : 444 ≤ (sI (sI h 427 c.toNatClampNeg b) 428 c.toNatClampNeg e).1 := hn4
    have hL6 : LK (sI (sI h 427 c.toNatClampNeg b) 428 c.toNatClampNeg e) := hL4
    refine e_ld (pc' := 37) i159_36 rfl rfl ?_
    refine e_get (w := .ref 429) (pc' := 40) i159_37 rfl (x_isC (by decide) hn6 sh397) (x_fvR (by decide +kernel) (hL6 397 33 429 lk397_33)) ?_
    refine e_ld (pc' := 41) i159_40 rfl rfl ?_
    refine e_ld (pc' := 43) i159_41 rfl rfl ?_
    obtain ⟨g7, hP⟩ := hP
    refine e_as (n := c.toNatClampNeg) (h' := sI (sI (sI h 427 c.toNatClampNeg b) 428 c.toNatClampNeg e) 429 c.toNatClampNeg d) (pc' := 44) i159_43 rfl (x_alX (a := 20) (by decide) hn6 sh429 (by decide) g7) rfl (by rw [show (SH 429).1 = 20 by rw [sh429]]; rfl) ?_
    have hn8 : 444 ≤ (sI (sI (sI h 427 c.toNatClampNeg b) 428 c.toNatClampNeg e) 429 c.toNatClampNeg d).1 := hn6
    have hL8 : LK (sI (sI (sI h 427 c.toNatClampNeg b) 428 c.toNatClampNeg e) 429 c.toNatClampNeg d) := hL6
    refine e_rt i159_44 rfl ?_
    exact ⟨rfl, by unfold G159; simp only [if_pos (show (gI h 427 c.toNatClampNeg) = (-1) from (of_decide_eq_true c2))]⟩
  · replace hP := hP.2 (of_decide_eq_false c2)
    refine e_ld (pc' := 12) i159_10 rfl rfl ?_
    refine e_ld (pc' := 13) i159_12 rfl rfl ?_
    refine e_get (w := .ref 428) (pc' := 16) i159_13 rfl (x_isC (by decide) hn sh397) (x_fvR (by decide +kernel) (hL 397 32 428 lk397_32)) ?_
    refine e_ld (pc' := 17) i159_16 rfl rfl ?_
    obtain ⟨g9, hP⟩ := hP
    refine e_al (n := c.toNatClampNeg) (w := .int (gI h 428 c.toNatClampNeg)) (pc' := 18) i159_17 rfl (x_alX (a := 20) (by decide) hn sh428 (by decide) g9) rfl rfl ?_
    refine e_ic (pc' := 21) i159_18 rfl (fun c10 => ?_) (fun c10 => ?_)
    · replace hP := hP.1 (of_decide_eq_true c10)
      refine e_rt i159_44 rfl ?_
      exact ⟨rfl, by unfold G159; simp only [if_neg (show ¬ ((gI h 427 c.toNatClampNeg) = (-1)) from (of_decide_eq_false c2)), if_pos (show (gI h 428 c.toNatClampNeg) ≤ e from (of_decide_eq_true c10))]⟩
    · replace hP := hP.2 (of_decide_eq_false c10)
      refine e_ld (pc' := 22) i159_21 rfl rfl ?_
      refine e_get (w := .ref 427) (pc' := 25) i159_22 rfl (x_isC (by decide) hn sh397) (x_fvR (by decide +kernel) (hL 397 31 427 lk397_31)) ?_
      refine e_ld (pc' := 26) i159_25 rfl rfl ?_
      refine e_ld (pc' := 27) i159_26 rfl rfl ?_
      obtain ⟨g11, hP⟩ := hP
      refine e_as (n := c.toNatClampNeg) (h' := sI h 427 c.toNatClampNeg b) (pc' := 28) i159_27 rfl (x_alX (a := 20) (by decide) hn sh427 (by decide) g11) rfl (by rw [show (SH 427).1 = 20 by rw [sh427]]; rfl) ?_
      have hn12 : 444 ≤ (sI h 427 c.toNatClampNeg b).1 := hn
      have hL12 : LK (sI h 427 c.toNatClampNeg b) := hL
      refine e_ld (pc' := 29) i159_28 rfl rfl ?_
      refine e_get (w := .ref 428) (pc' := 32) i159_29 rfl (x_isC (by decide) hn12 sh397) (x_fvR (by decide +kernel) (hL12 397 32 428 lk397_32)) ?_
      refine e_ld (pc' := 33) i159_32 rfl rfl ?_
      refine e_ld (pc' := 35) i159_33 rfl rfl ?_
      obtain ⟨g13, hP⟩ := hP
      refine e_as (n := c.toNatClampNeg) (h' := sI (sI h 427 c.toNatClampNeg b) 428 c.toNatClampNeg e) (pc' := 36) i159_35 rfl (x_alX (a := 20) (by decide) hn12 sh428 (by decide) g13) rfl (by rw [show (SH 428).1 = 20 by rw [sh428]]; rfl) ?_
      have hn14 : 444 ≤ (sI (sI h 427 c.toNatClampNeg b) 428 c.toNatClampNeg e).1 := hn12
      have hL14 : LK (sI (sI h 427 c.toNatClampNeg b) 428 c.toNatClampNeg e) := hL12
      refine e_ld (pc' := 37) i159_36 rfl rfl ?_
      refine e_get (w := .ref 429) (pc' := 40) i159_37 rfl (x_isC (by decide) hn14 sh397) (x_fvR (by decide +kernel) (hL14 397 33 429 lk397_33)) ?_
      refine e_ld (pc' := 41) i159_40 rfl rfl ?_
      refine e_ld (pc' := 43) i159_41 rfl rfl ?_
      obtain ⟨g15, hP⟩ := hP
      refine e_as (n := c.toNatClampNeg) (h' := sI (sI (sI h 427 c.toNatClampNeg b) 428 c.toNatClampNeg e) 429 c.toNatClampNeg d) (pc' := 44) i159_43 rfl (x_alX (a := 20) (by decide) hn14 sh429 (by decide) g15) rfl (by rw [show (SH 429).1 = 20 by rw [sh429]]; rfl) ?_
      have hn16 : 444 ≤ (sI (sI (sI h 427 c.toNatClampNeg b) 428 c.toNatClampNeg e) 429 c.toNatClampNeg d).1 := hn14
      have hL16 : LK (sI (sI (sI h 427 c.toNatClampNeg b) 428 c.toNatClampNeg e) 429 c.toNatClampNeg d) := hL14
      refine e_rt i159_44 rfl ?_
      exact ⟨rfl, by unfold G159; simp only [if_neg (show ¬ ((gI h 427 c.toNatClampNeg) = (-1)) from (of_decide_eq_false c2)), if_neg (show ¬ ((gI h 428 c.toNatClampNeg) ≤ e) from (of_decide_eq_false c10))]⟩
