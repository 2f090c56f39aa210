/-! The reference's methods without loops, as functions. -/
/-- FloorTurnModel.refuse(I)I -/
def F124 (a : Int32) (h : Hp) : Int32 := a
def G124 (a : Int32) (h : Hp) : Hp := sI h 398 ((-a).toNatClampNeg) ((gI h 398 ((-a).toNatClampNeg)) + 1)
theorem n_G124 (a : Int32) (h : Hp) : (G124 a h).1 = h.1 := by
  unfold G124
  (repeat' split) <;> first | rfl | (simp only [n_sI, n_sL, n_sR])
theorem r_G124 (a : Int32) (h : Hp) : gR (G124 a h) = gR h := by
  unfold G124
  (repeat' split) <;> first | rfl | (simp only [gR_sI, gR_sL])
def P124 (a : Int32) (h : Hp) : Prop := (vp_in (-a) 8) ∧ ((vp_in (-a) 8) ∧ (True))
set_option maxHeartbeats 8000000 in
theorem m124 {L : Nat} {xs : Nat → Int32} {h : Hp} {a : Int32} (hn : 444 ≤ h.1) (hL : LK h) (hP : P124 a h) : Sp L xs 124 [.ref 397, .int a] h (some (.int (F124 a h))) (G124 a h) := by
  unfold P124 at hP
  refine sp_of (ls := [some (.ref 397), some (.int a)]) rfl ?_
  refine e_ld (pc' := 1) i124_0 rfl rfl ?_
  refine e_get (w := .ref 398) (pc' := 4) i124_1 rfl (x_isC (by decide) hn sh397) (x_fvR (by decide +kernel) (hL 397 0 398 lk397_0)) ?_
  refine e_ld (pc' := 5) i124_4 rfl rfl ?_
  refine e_un (pc' := 6) i124_5 rfl rfl ?_
  refine e_stk (pc' := 7) i124_6 rfl rfl ?_
  obtain ⟨g1, hP⟩ := hP
  refine e_al (n := (-a).toNatClampNeg) (w := .int (gI h 398 ((-a).toNatClampNeg))) (pc' := 8) i124_7 rfl (x_alX (a := 20) (by decide) hn sh398 (by decide) g1) rfl rfl ?_
  refine e_cn (pc' := 9) i124_8 rfl ?_
  refine e_ib (z := (gI h 398 ((-a).toNatClampNeg)) + 1) (pc' := 10) i124_9 rfl rfl ?_
  obtain ⟨g2, hP⟩ := hP
  refine e_as (n := (-a).toNatClampNeg) (h' := sI h 398 ((-a).toNatClampNeg) ((gI h 398 ((-a).toNatClampNeg)) + 1)) (pc' := 11) i124_10 rfl (x_alX (a := 20) (by decide) hn sh398 (by decide) g2) rfl (by rw [show (SH 398).1 = 20 by rw [sh398]]; rfl) ?_
  have hn3 : 444 ≤ (sI h 398 ((-a).toNatClampNeg) ((gI h 398 ((-a).toNatClampNeg)) + 1)).1 := hn
  have hL3 : LK (sI h 398 ((-a).toNatClampNeg) ((gI h 398 ((-a).toNatClampNeg)) + 1)) := hL
  refine e_ld (pc' := 12) i124_11 rfl rfl ?_
  refine e_rt i124_12 rfl ?_
  exact ⟨by unfold F124; skip; rfl, by unfold G124; skip; rfl⟩
/-- FloorTurnModel.next(II)I -/
def F127 (a : Int32) (b : Int32) (h : Hp) : Int32 := if b = 1 then (if b = 2 then (if (x_in3 ((a - a / 12 * 12) + 1) 0 11) = true then (if (x_in3 ((a / 12) + 1) 0 11) = true then ((12 * ((a / 12) + 1)) + ((a - a / 12 * 12) + 1)) else ((-1))) else ((-1))) else (if b = 0 then (if (x_in3 ((a - a / 12 * 12) + 1) 0 11) = true then (if (x_in3 ((a / 12) + (-1)) 0 11) = true then ((12 * ((a / 12) + (-1))) + ((a - a / 12 * 12) + 1)) else ((-1))) else ((-1))) else (if (x_in3 ((a - a / 12 * 12) + 1) 0 11) = true then (if (x_in3 ((a / 12) + 0) 0 11) = true then ((12 * ((a / 12) + 0)) + ((a - a / 12 * 12) + 1)) else ((-1))) else ((-1))))) else (if b = 3 then (if b = 2 then (if (x_in3 ((a - a / 12 * 12) + (-1)) 0 11) = true then (if (x_in3 ((a / 12) + 1) 0 11) = true then ((12 * ((a / 12) + 1)) + ((a - a / 12 * 12) + (-1))) else ((-1))) else ((-1))) else (if b = 0 then (if (x_in3 ((a - a / 12 * 12) + (-1)) 0 11) = true then (if (x_in3 ((a / 12) + (-1)) 0 11) = true then ((12 * ((a / 12) + (-1))) + ((a - a / 12 * 12) + (-1))) else ((-1))) else ((-1))) else (if (x_in3 ((a - a / 12 * 12) + (-1)) 0 11) = true then (if (x_in3 ((a / 12) + 0) 0 11) = true then ((12 * ((a / 12) + 0)) + ((a - a / 12 * 12) + (-1))) else ((-1))) else ((-1))))) else (if b = 2 then (if (x_in3 ((a - a / 12 * 12) + 0) 0 11) = true then (if (x_in3 ((a / 12) + 1) 0 11) = true then ((12 * ((a / 12) + 1)) + ((a - a / 12 * 12) + 0)) else ((-1))) else ((-1))) else (if b = 0 then (if (x_in3 ((a - a / 12 * 12) + 0) 0 11) = true then (if (x_in3 ((a / 12) + (-1)) 0 11) = true then ((12 * ((a / 12) + (-1))) + ((a - a / 12 * 12) + 0)) else ((-1))) else ((-1))) else (if (x_in3 ((a - a / 12 * 12) + 0) 0 11) = true then (if (x_in3 ((a / 12) + 0) 0 11) = true then ((12 * ((a / 12) + 0)) + ((a - a / 12 * 12) + 0)) else ((-1))) else ((-1))))))
set_option maxHeartbeats 8000000 in
theorem m127 {L : Nat} {xs : Nat → Int32} {h : Hp} {a : Int32} {b : Int32}  : Sp L xs 127 [.int a, .int b] h (some (.int (F127 a b h))) h := by
  refine sp_of (ls := [some (.int a), some (.int b), none, none]) rfl ?_
  refine e_ld (pc' := 1) i127_0 rfl rfl ?_
  refine e_cn (pc' := 3) i127_1 rfl ?_
  refine e_ib (z := a - a / 12 * 12) (pc' := 4) i127_3 rfl (x_ib_rem (by decide)) ?_
  refine e_ld (pc' := 5) i127_4 rfl rfl ?_
  refine e_cn (pc' := 6) i127_5 rfl ?_
  refine e_ic (pc' := 9) i127_6 rfl (fun c1 => ?_) (fun c1 => ?_)
  · skip
    refine e_ld (pc' := 14) i127_13 rfl rfl ?_
    refine e_cn (pc' := 15) i127_14 rfl ?_
    refine e_ic (pc' := 18) i127_15 rfl (fun c2 => ?_) (fun c2 => ?_)
    · skip
      refine e_cn (pc' := 23) i127_22 rfl ?_
      refine e_ib (z := (a - a / 12 * 12) + 0) (pc' := 24) i127_23 rfl rfl ?_
      refine e_st (ls' := [some (.int a), some (.int b), some (.int ((a - a / 12 * 12) + 0)), none]) (pc' := 25) i127_24 rfl rfl rfl ?_
      refine e_ld (pc' := 26) i127_25 rfl rfl ?_
      refine e_cn (pc' := 28) i127_26 rfl ?_
      refine e_ib (z := a / 12) (pc' := 29) i127_28 rfl (x_ib_div (by decide)) ?_
      refine e_ld (pc' := 30) i127_29 rfl rfl ?_
      refine e_cn (pc' := 31) i127_30 rfl ?_
      refine e_ic (pc' := 34) i127_31 rfl (fun c3 => ?_) (fun c3 => ?_)
      · skip
        refine e_ld (pc' := 39) i127_38 rfl rfl ?_
        refine e_if (pc' := 42) i127_39 rfl (fun c4 => ?_) (fun c4 => ?_)
        · skip
          refine e_cn (pc' := 47) i127_46 rfl ?_
          refine e_ib (z := (a / 12) + 0) (pc' := 48) i127_47 rfl rfl ?_
          refine e_st (ls' := [some (.int a), some (.int b), some (.int ((a - a / 12 * 12) + 0)), some (.int ((a / 12) + 0))]) (pc' := 49) i127_48 rfl rfl rfl ?_
          refine e_ld (pc' := 50) i127_49 rfl rfl ?_
          refine e_cn (pc' := 51) i127_50 rfl ?_
          refine e_cn (pc' := 53) i127_51 rfl ?_
          refine e_cI (w := .int (b2i (x_in3 ((a - a / 12 * 12) + 0) 0 11))) (As := [.int ((a - a / 12 * 12) + 0), .int 0, .int 11]) (rest := []) (pc' := 56) i127_53 rfl rfl rfl rfl rfl m123 ?_
          refine e_b0 (pc' := 59) i127_56 rfl (fun c5 => ?_) (fun c5 => ?_)
          · skip
            refine e_cn (pc' := 79) i127_78 rfl ?_
            refine e_rt i127_79 rfl ?_
            exact ⟨by unfold F127; simp only [if_neg (show ¬ (b = 1) from (of_decide_eq_true c1)), if_neg (show ¬ (b = 3) from (of_decide_eq_true c2)), if_neg (show ¬ (b = 2) from (of_decide_eq_true c3)), if_neg (show ¬ (b = 0) from (of_decide_eq_true c4)), if_neg (show ¬ (x_in3 ((a - a / 12 * 12) + 0) 0 11) = true by rw [c5]; decide)], rfl⟩
          · skip
            refine e_ld (pc' := 60) i127_59 rfl rfl ?_
            refine e_cn (pc' := 61) i127_60 rfl ?_
            refine e_cn (pc' := 63) i127_61 rfl ?_
            refine e_cI (w := .int (b2i (x_in3 ((a / 12) + 0) 0 11))) (As := [.int ((a / 12) + 0), .int 0, .int 11]) (rest := []) (pc' := 66) i127_63 rfl rfl rfl rfl rfl m123 ?_
            refine e_b0 (pc' := 69) i127_66 rfl (fun c6 => ?_) (fun c6 => ?_)
            · skip
              refine e_cn (pc' := 79) i127_78 rfl ?_
              refine e_rt i127_79 rfl ?_
              exact ⟨by unfold F127; simp only [if_neg (show ¬ (b = 1) from (of_decide_eq_true c1)), if_neg (show ¬ (b = 3) from (of_decide_eq_true c2)), if_neg (show ¬ (b = 2) from (of_decide_eq_true c3)), if_neg (show ¬ (b = 0) from (of_decide_eq_true c4)), if_pos c5, if_neg (show ¬ (x_in3 ((a / 12) + 0) 0 11) = true by rw [c6]; decide)], rfl⟩
            · skip
              refine e_cn (pc' := 71) i127_69 rfl ?_
              refine e_ld (pc' := 72) i127_71 rfl rfl ?_
              refine e_ib (z := 12 * ((a / 12) + 0)) (pc' := 73) i127_72 rfl rfl ?_
              refine e_ld (pc' := 74) i127_73 rfl rfl ?_
              refine e_ib (z := (12 * ((a / 12) + 0)) + ((a - a / 12 * 12) + 0)) (pc' := 75) i127_74 rfl rfl ?_
              refine e_go i127_75 ?_
              refine e_rt i127_79 rfl ?_
              exact ⟨by unfold F127; simp only [if_neg (show ¬ (b = 1) from (of_decide_eq_true c1)), if_neg (show ¬ (b = 3) from (of_decide_eq_true c2)), if_neg (show ¬ (b = 2) from (of_decide_eq_true c3)), if_neg (show ¬ (b = 0) from (of_decide_eq_true c4)), if_pos c5, if_pos c6], rfl⟩
        · skip
          refine e_cn (pc' := 43) i127_42 rfl ?_
          refine e_go i127_43 ?_
          refine e_ib (z := (a / 12) + (-1)) (pc' := 48) i127_47 rfl rfl ?_
          refine e_st (ls' := [some (.int a), some (.int b), some (.int ((a - a / 12 * 12) + 0)), some (.int ((a / 12) + (-1)))]) (pc' := 49) i127_48 rfl rfl rfl ?_
          refine e_ld (pc' := 50) i127_49 rfl rfl ?_
          refine e_cn (pc' := 51) i127_50 rfl ?_
          refine e_cn (pc' := 53) i127_51 rfl ?_
          refine e_cI (w := .int (b2i (x_in3 ((a - a / 12 * 12) + 0) 0 11))) (As := [.int ((a - a / 12 * 12) + 0), .int 0, .int 11]) (rest := []) (pc' := 56) i127_53 rfl rfl rfl rfl rfl m123 ?_
          refine e_b0 (pc' := 59) i127_56 rfl (fun c7 => ?_) (fun c7 => ?_)
          · skip
            refine e_cn (pc' := 79) i127_78 rfl ?_
            refine e_rt i127_79 rfl ?_
            exact ⟨by unfold F127; simp only [if_neg (show ¬ (b = 1) from (of_decide_eq_true c1)), if_neg (show ¬ (b = 3) from (of_decide_eq_true c2)), if_neg (show ¬ (b = 2) from (of_decide_eq_true c3)), if_pos (show b = 0 from (Decidable.not_not.mp (of_decide_eq_false c4))), if_neg (show ¬ (x_in3 ((a - a / 12 * 12) + 0) 0 11) = true by rw [c7]; decide)], rfl⟩
          · skip
            refine e_ld (pc' := 60) i127_59 rfl rfl ?_
            refine e_cn (pc' := 61) i127_60 rfl ?_
            refine e_cn (pc' := 63) i127_61 rfl ?_
            refine e_cI (w := .int (b2i (x_in3 ((a / 12) + (-1)) 0 11))) (As := [.int ((a / 12) + (-1)), .int 0, .int 11]) (rest := []) (pc' := 66) i127_63 rfl rfl rfl rfl rfl m123 ?_
            refine e_b0 (pc' := 69) i127_66 rfl (fun c8 => ?_) (fun c8 => ?_)
            · skip
              refine e_cn (pc' := 79) i127_78 rfl ?_
              refine e_rt i127_79 rfl ?_
              exact ⟨by unfold F127; simp only [if_neg (show ¬ (b = 1) from (of_decide_eq_true c1)), if_neg (show ¬ (b = 3) from (of_decide_eq_true c2)), if_neg (show ¬ (b = 2) from (of_decide_eq_true c3)), if_pos (show b = 0 from (Decidable.not_not.mp (of_decide_eq_false c4))), if_pos c7, if_neg (show ¬ (x_in3 ((a / 12) + (-1)) 0 11) = true by rw [c8]; decide)], rfl⟩
            · skip
              refine e_cn (pc' := 71) i127_69 rfl ?_
              refine e_ld (pc' := 72) i127_71 rfl rfl ?_
              refine e_ib (z := 12 * ((a / 12) + (-1))) (pc' := 73) i127_72 rfl rfl ?_
              refine e_ld (pc' := 74) i127_73 rfl rfl ?_
              refine e_ib (z := (12 * ((a / 12) + (-1))) + ((a - a / 12 * 12) + 0)) (pc' := 75) i127_74 rfl rfl ?_
              refine e_go i127_75 ?_
              refine e_rt i127_79 rfl ?_
              exact ⟨by unfold F127; simp only [if_neg (show ¬ (b = 1) from (of_decide_eq_true c1)), if_neg (show ¬ (b = 3) from (of_decide_eq_true c2)), if_neg (show ¬ (b = 2) from (of_decide_eq_true c3)), if_pos (show b = 0 from (Decidable.not_not.mp (of_decide_eq_false c4))), if_pos c7, if_pos c8], rfl⟩
      · skip
        refine e_cn (pc' := 35) i127_34 rfl ?_
        refine e_go i127_35 ?_
        refine e_ib (z := (a / 12) + 1) (pc' := 48) i127_47 rfl rfl ?_
        refine e_st (ls' := [some (.int a), some (.int b), some (.int ((a - a / 12 * 12) + 0)), some (.int ((a / 12) + 1))]) (pc' := 49) i127_48 rfl rfl rfl ?_
        refine e_ld (pc' := 50) i127_49 rfl rfl ?_
        refine e_cn (pc' := 51) i127_50 rfl ?_
        refine e_cn (pc' := 53) i127_51 rfl ?_
        refine e_cI (w := .int (b2i (x_in3 ((a - a / 12 * 12) + 0) 0 11))) (As := [.int ((a - a / 12 * 12) + 0), .int 0, .int 11]) (rest := []) (pc' := 56) i127_53 rfl rfl rfl rfl rfl m123 ?_
        refine e_b0 (pc' := 59) i127_56 rfl (fun c9 => ?_) (fun c9 => ?_)
        · skip
          refine e_cn (pc' := 79) i127_78 rfl ?_
          refine e_rt i127_79 rfl ?_
          exact ⟨by unfold F127; simp only [if_neg (show ¬ (b = 1) from (of_decide_eq_true c1)), if_neg (show ¬ (b = 3) from (of_decide_eq_true c2)), if_pos (show b = 2 from (Decidable.not_not.mp (of_decide_eq_false c3))), if_neg (show ¬ (x_in3 ((a - a / 12 * 12) + 0) 0 11) = true by rw [c9]; decide)], rfl⟩
        · skip
          refine e_ld (pc' := 60) i127_59 rfl rfl ?_
          refine e_cn (pc' := 61) i127_60 rfl ?_
          refine e_cn (pc' := 63) i127_61 rfl ?_
          refine e_cI (w := .int (b2i (x_in3 ((a / 12) + 1) 0 11))) (As := [.int ((a / 12) + 1), .int 0, .int 11]) (rest := []) (pc' := 66) i127_63 rfl rfl rfl rfl rfl m123 ?_
          refine e_b0 (pc' := 69) i127_66 rfl (fun c10 => ?_) (fun c10 => ?_)
          · skip
            refine e_cn (pc' := 79) i127_78 rfl ?_
            refine e_rt i127_79 rfl ?_
            exact ⟨by unfold F127; simp only [if_neg (show ¬ (b = 1) from (of_decide_eq_true c1)), if_neg (show ¬ (b = 3) from (of_decide_eq_true c2)), if_pos (show b = 2 from (Decidable.not_not.mp (of_decide_eq_false c3))), if_pos c9, if_neg (show ¬ (x_in3 ((a / 12) + 1) 0 11) = true by rw [c10]; decide)], rfl⟩
          · skip
            refine e_cn (pc' := 71) i127_69 rfl ?_
            refine e_ld (pc' := 72) i127_71 rfl rfl ?_
            refine e_ib (z := 12 * ((a / 12) + 1)) (pc' := 73) i127_72 rfl rfl ?_
            refine e_ld (pc' := 74) i127_73 rfl rfl ?_
            refine e_ib (z := (12 * ((a / 12) + 1)) + ((a - a / 12 * 12) + 0)) (pc' := 75) i127_74 rfl rfl ?_
            refine e_go i127_75 ?_
            refine e_rt i127_79 rfl ?_
            exact ⟨by unfold F127; simp only [if_neg (show ¬ (b = 1) from (of_decide_eq_true c1)), if_neg (show ¬ (b = 3) from (of_decide_eq_true c2)), if_pos (show b = 2 from (Decidable.not_not.mp (of_decide_eq_false c3))), if_pos c9, if_pos c10], rfl⟩
    · skip
      refine e_cn (pc' := 19) i127_18 rfl ?_
      refine e_go i127_19 ?_
      refine e_ib (z := (a - a / 12 * 12) + (-1)) (pc' := 24) i127_23 rfl rfl ?_
      refine e_st (ls' := [some (.int a), some (.int b), some (.int ((a - a / 12 * 12) + (-1))), none]) (pc' := 25) i127_24 rfl rfl rfl ?_
      refine e_ld (pc' := 26) i127_25 rfl rfl ?_
      refine e_cn (pc' := 28) i127_26 rfl ?_
      refine e_ib (z := a / 12) (pc' := 29) i127_28 rfl (x_ib_div (by decide)) ?_
      refine e_ld (pc' := 30) i127_29 rfl rfl ?_
      refine e_cn (pc' := 31) i127_30 rfl ?_
      refine e_ic (pc' := 34) i127_31 rfl (fun c11 => ?_) (fun c11 => ?_)
      · skip
        refine e_ld (pc' := 39) i127_38 rfl rfl ?_
        refine e_if (pc' := 42) i127_39 rfl (fun c12 => ?_) (fun c12 => ?_)
        · skip
          refine e_cn (pc' := 47) i127_46 rfl ?_
          refine e_ib (z := (a / 12) + 0) (pc' := 48) i127_47 rfl rfl ?_
          refine e_st (ls' := [some (.int a), some (.int b), some (.int ((a - a / 12 * 12) + (-1))), some (.int ((a / 12) + 0))]) (pc' := 49) i127_48 rfl rfl rfl ?_
          refine e_ld (pc' := 50) i127_49 rfl rfl ?_
          refine e_cn (pc' := 51) i127_50 rfl ?_
          refine e_cn (pc' := 53) i127_51 rfl ?_
          refine e_cI (w := .int (b2i (x_in3 ((a - a / 12 * 12) + (-1)) 0 11))) (As := [.int ((a - a / 12 * 12) + (-1)), .int 0, .int 11]) (rest := []) (pc' := 56) i127_53 rfl rfl rfl rfl rfl m123 ?_
          refine e_b0 (pc' := 59) i127_56 rfl (fun c13 => ?_) (fun c13 => ?_)
          · skip
            refine e_cn (pc' := 79) i127_78 rfl ?_
            refine e_rt i127_79 rfl ?_
            exact ⟨by unfold F127; simp only [if_neg (show ¬ (b = 1) from (of_decide_eq_true c1)), if_pos (show b = 3 from (Decidable.not_not.mp (of_decide_eq_false c2))), if_neg (show ¬ (b = 2) from (of_decide_eq_true c11)), if_neg (show ¬ (b = 0) from (of_decide_eq_true c12)), if_neg (show ¬ (x_in3 ((a - a / 12 * 12) + (-1)) 0 11) = true by rw [c13]; decide)], rfl⟩
          · skip
            refine e_ld (pc' := 60) i127_59 rfl rfl ?_
            refine e_cn (pc' := 61) i127_60 rfl ?_
            refine e_cn (pc' := 63) i127_61 rfl ?_
            refine e_cI (w := .int (b2i (x_in3 ((a / 12) + 0) 0 11))) (As := [.int ((a / 12) + 0), .int 0, .int 11]) (rest := []) (pc' := 66) i127_63 rfl rfl rfl rfl rfl m123 ?_
            refine e_b0 (pc' := 69) i127_66 rfl (fun c14 => ?_) (fun c14 => ?_)
            · skip
              refine e_cn (pc' := 79) i127_78 rfl ?_
              refine e_rt i127_79 rfl ?_
              exact ⟨by unfold F127; simp only [if_neg (show ¬ (b = 1) from (of_decide_eq_true c1)), if_pos (show b = 3 from (Decidable.not_not.mp (of_decide_eq_false c2))), if_neg (show ¬ (b = 2) from (of_decide_eq_true c11)), if_neg (show ¬ (b = 0) from (of_decide_eq_true c12)), if_pos c13, if_neg (show ¬ (x_in3 ((a / 12) + 0) 0 11) = true by rw [c14]; decide)], rfl⟩
            · skip
              refine e_cn (pc' := 71) i127_69 rfl ?_
              refine e_ld (pc' := 72) i127_71 rfl rfl ?_
              refine e_ib (z := 12 * ((a / 12) + 0)) (pc' := 73) i127_72 rfl rfl ?_
              refine e_ld (pc' := 74) i127_73 rfl rfl ?_
              refine e_ib (z := (12 * ((a / 12) + 0)) + ((a - a / 12 * 12) + (-1))) (pc' := 75) i127_74 rfl rfl ?_
              refine e_go i127_75 ?_
              refine e_rt i127_79 rfl ?_
              exact ⟨by unfold F127; simp only [if_neg (show ¬ (b = 1) from (of_decide_eq_true c1)), if_pos (show b = 3 from (Decidable.not_not.mp (of_decide_eq_false c2))), if_neg (show ¬ (b = 2) from (of_decide_eq_true c11)), if_neg (show ¬ (b = 0) from (of_decide_eq_true c12)), if_pos c13, if_pos c14], rfl⟩
        · skip
          refine e_cn (pc' := 43) i127_42 rfl ?_
          refine e_go i127_43 ?_
          refine e_ib (z := (a / 12) + (-1)) (pc' := 48) i127_47 rfl rfl ?_
          refine e_st (ls' := [some (.int a), some (.int b), some (.int ((a - a / 12 * 12) + (-1))), some (.int ((a / 12) + (-1)))]) (pc' := 49) i127_48 rfl rfl rfl ?_
          refine e_ld (pc' := 50) i127_49 rfl rfl ?_
          refine e_cn (pc' := 51) i127_50 rfl ?_
          refine e_cn (pc' := 53) i127_51 rfl ?_
          refine e_cI (w := .int (b2i (x_in3 ((a - a / 12 * 12) + (-1)) 0 11))) (As := [.int ((a - a / 12 * 12) + (-1)), .int 0, .int 11]) (rest := []) (pc' := 56) i127_53 rfl rfl rfl rfl rfl m123 ?_
          refine e_b0 (pc' := 59) i127_56 rfl (fun c15 => ?_) (fun c15 => ?_)
          · skip
            refine e_cn (pc' := 79) i127_78 rfl ?_
            refine e_rt i127_79 rfl ?_
            exact ⟨by unfold F127; simp only [if_neg (show ¬ (b = 1) from (of_decide_eq_true c1)), if_pos (show b = 3 from (Decidable.not_not.mp (of_decide_eq_false c2))), if_neg (show ¬ (b = 2) from (of_decide_eq_true c11)), if_pos (show b = 0 from (Decidable.not_not.mp (of_decide_eq_false c12))), if_neg (show ¬ (x_in3 ((a - a / 12 * 12) + (-1)) 0 11) = true by rw [c15]; decide)], rfl⟩
          · skip
            refine e_ld (pc' := 60) i127_59 rfl rfl ?_
            refine e_cn (pc' := 61) i127_60 rfl ?_
            refine e_cn (pc' := 63) i127_61 rfl ?_
            refine e_cI (w := .int (b2i (x_in3 ((a / 12) + (-1)) 0 11))) (As := [.int ((a / 12) + (-1)), .int 0, .int 11]) (rest := []) (pc' := 66) i127_63 rfl rfl rfl rfl rfl m123 ?_
            refine e_b0 (pc' := 69) i127_66 rfl (fun c16 => ?_) (fun c16 => ?_)
            · skip
              refine e_cn (pc' := 79) i127_78 rfl ?_
              refine e_rt i127_79 rfl ?_
              exact ⟨by unfold F127; simp only [if_neg (show ¬ (b = 1) from (of_decide_eq_true c1)), if_pos (show b = 3 from (Decidable.not_not.mp (of_decide_eq_false c2))), if_neg (show ¬ (b = 2) from (of_decide_eq_true c11)), if_pos (show b = 0 from (Decidable.not_not.mp (of_decide_eq_false c12))), if_pos c15, if_neg (show ¬ (x_in3 ((a / 12) + (-1)) 0 11) = true by rw [c16]; decide)], rfl⟩
            · skip
              refine e_cn (pc' := 71) i127_69 rfl ?_
              refine e_ld (pc' := 72) i127_71 rfl rfl ?_
              refine e_ib (z := 12 * ((a / 12) + (-1))) (pc' := 73) i127_72 rfl rfl ?_
              refine e_ld (pc' := 74) i127_73 rfl rfl ?_
              refine e_ib (z := (12 * ((a / 12) + (-1))) + ((a - a / 12 * 12) + (-1))) (pc' := 75) i127_74 rfl rfl ?_
              refine e_go i127_75 ?_
              refine e_rt i127_79 rfl ?_
              exact ⟨by unfold F127; simp only [if_neg (show ¬ (b = 1) from (of_decide_eq_true c1)), if_pos (show b = 3 from (Decidable.not_not.mp (of_decide_eq_false c2))), if_neg (show ¬ (b = 2) from (of_decide_eq_true c11)), if_pos (show b = 0 from (Decidable.not_not.mp (of_decide_eq_false c12))), if_pos c15, if_pos c16], rfl⟩
      · skip
        refine e_cn (pc' := 35) i127_34 rfl ?_
        refine e_go i127_35 ?_
        refine e_ib (z := (a / 12) + 1) (pc' := 48) i127_47 rfl rfl ?_
        refine e_st (ls' := [some (.int a), some (.int b), some (.int ((a - a / 12 * 12) + (-1))), some (.int ((a / 12) + 1))]) (pc' := 49) i127_48 rfl rfl rfl ?_
        refine e_ld (pc' := 50) i127_49 rfl rfl ?_
        refine e_cn (pc' := 51) i127_50 rfl ?_
        refine e_cn (pc' := 53) i127_51 rfl ?_
        refine e_cI (w := .int (b2i (x_in3 ((a - a / 12 * 12) + (-1)) 0 11))) (As := [.int ((a - a / 12 * 12) + (-1)), .int 0, .int 11]) (rest := []) (pc' := 56) i127_53 rfl rfl rfl rfl rfl m123 ?_
        refine e_b0 (pc' := 59) i127_56 rfl (fun c17 => ?_) (fun c17 => ?_)
        · skip
          refine e_cn (pc' := 79) i127_78 rfl ?_
          refine e_rt i127_79 rfl ?_
          exact ⟨by unfold F127; simp only [if_neg (show ¬ (b = 1) from (of_decide_eq_true c1)), if_pos (show b = 3 from (Decidable.not_not.mp (of_decide_eq_false c2))), if_pos (show b = 2 from (Decidable.not_not.mp (of_decide_eq_false c11))), if_neg (show ¬ (x_in3 ((a - a / 12 * 12) + (-1)) 0 11) = true by rw [c17]; decide)], rfl⟩
        · skip
          refine e_ld (pc' := 60) i127_59 rfl rfl ?_
          refine e_cn (pc' := 61) i127_60 rfl ?_
          refine e_cn (pc' := 63) i127_61 rfl ?_
          refine e_cI (w := .int (b2i (x_in3 ((a / 12) + 1) 0 11))) (As := [.int ((a / 12) + 1), .int 0, .int 11]) (rest := []) (pc' := 66) i127_63 rfl rfl rfl rfl rfl m123 ?_
          refine e_b0 (pc' := 69) i127_66 rfl (fun c18 => ?_) (fun c18 => ?_)
          · skip
            refine e_cn (pc' := 79) i127_78 rfl ?_
            refine e_rt i127_79 rfl ?_
            exact ⟨by unfold F127; simp only [if_neg (show ¬ (b = 1) from (of_decide_eq_true c1)), if_pos (show b = 3 from (Decidable.not_not.mp (of_decide_eq_false c2))), if_pos (show b = 2 from (Decidable.not_not.mp (of_decide_eq_false c11))), if_pos c17, if_neg (show ¬ (x_in3 ((a / 12) + 1) 0 11) = true by rw [c18]; decide)], rfl⟩
          · skip
            refine e_cn (pc' := 71) i127_69 rfl ?_
            refine e_ld (pc' := 72) i127_71 rfl rfl ?_
            refine e_ib (z := 12 * ((a / 12) + 1)) (pc' := 73) i127_72 rfl rfl ?_
            refine e_ld (pc' := 74) i127_73 rfl rfl ?_
            refine e_ib (z := (12 * ((a / 12) + 1)) + ((a - a / 12 * 12) + (-1))) (pc' := 75) i127_74 rfl rfl ?_
            refine e_go i127_75 ?_
            refine e_rt i127_79 rfl ?_
            exact ⟨by unfold F127; simp only [if_neg (show ¬ (b = 1) from (of_decide_eq_true c1)), if_pos (show b = 3 from (Decidable.not_not.mp (of_decide_eq_false c2))), if_pos (show b = 2 from (Decidable.not_not.mp (of_decide_eq_false c11))), if_pos c17, if_pos c18], rfl⟩
  · skip
    refine e_cn (pc' := 10) i127_9 rfl ?_
    refine e_go i127_10 ?_
    refine e_ib (z := (a - a / 12 * 12) + 1) (pc' := 24) i127_23 rfl rfl ?_
    refine e_st (ls' := [some (.int a), some (.int b), some (.int ((a - a / 12 * 12) + 1)), none]) (pc' := 25) i127_24 rfl rfl rfl ?_
    refine e_ld (pc' := 26) i127_25 rfl rfl ?_
    refine e_cn (pc' := 28) i127_26 rfl ?_
    refine e_ib (z := a / 12) (pc' := 29) i127_28 rfl (x_ib_div (by decide)) ?_
    refine e_ld (pc' := 30) i127_29 rfl rfl ?_
    refine e_cn (pc' := 31) i127_30 rfl ?_
    refine e_ic (pc' := 34) i127_31 rfl (fun c19 => ?_) (fun c19 => ?_)
    · skip
      refine e_ld (pc' := 39) i127_38 rfl rfl ?_
      refine e_if (pc' := 42) i127_39 rfl (fun c20 => ?_) (fun c20 => ?_)
      · skip
        refine e_cn (pc' := 47) i127_46 rfl ?_
        refine e_ib (z := (a / 12) + 0) (pc' := 48) i127_47 rfl rfl ?_
        refine e_st (ls' := [some (.int a), some (.int b), some (.int ((a - a / 12 * 12) + 1)), some (.int ((a / 12) + 0))]) (pc' := 49) i127_48 rfl rfl rfl ?_
        refine e_ld (pc' := 50) i127_49 rfl rfl ?_
        refine e_cn (pc' := 51) i127_50 rfl ?_
        refine e_cn (pc' := 53) i127_51 rfl ?_
        refine e_cI (w := .int (b2i (x_in3 ((a - a / 12 * 12) + 1) 0 11))) (As := [.int ((a - a / 12 * 12) + 1), .int 0, .int 11]) (rest := []) (pc' := 56) i127_53 rfl rfl rfl rfl rfl m123 ?_
        refine e_b0 (pc' := 59) i127_56 rfl (fun c21 => ?_) (fun c21 => ?_)
        · skip
          refine e_cn (pc' := 79) i127_78 rfl ?_
          refine e_rt i127_79 rfl ?_
          exact ⟨by unfold F127; simp only [if_pos (show b = 1 from (Decidable.not_not.mp (of_decide_eq_false c1))), if_neg (show ¬ (b = 2) from (of_decide_eq_true c19)), if_neg (show ¬ (b = 0) from (of_decide_eq_true c20)), if_neg (show ¬ (x_in3 ((a - a / 12 * 12) + 1) 0 11) = true by rw [c21]; decide)], rfl⟩
        · skip
          refine e_ld (pc' := 60) i127_59 rfl rfl ?_
          refine e_cn (pc' := 61) i127_60 rfl ?_
          refine e_cn (pc' := 63) i127_61 rfl ?_
          refine e_cI (w := .int (b2i (x_in3 ((a / 12) + 0) 0 11))) (As := [.int ((a / 12) + 0), .int 0, .int 11]) (rest := []) (pc' := 66) i127_63 rfl rfl rfl rfl rfl m123 ?_
          refine e_b0 (pc' := 69) i127_66 rfl (fun c22 => ?_) (fun c22 => ?_)
          · skip
            refine e_cn (pc' := 79) i127_78 rfl ?_
            refine e_rt i127_79 rfl ?_
            exact ⟨by unfold F127; simp only [if_pos (show b = 1 from (Decidable.not_not.mp (of_decide_eq_false c1))), if_neg (show ¬ (b = 2) from (of_decide_eq_true c19)), if_neg (show ¬ (b = 0) from (of_decide_eq_true c20)), if_pos c21, if_neg (show ¬ (x_in3 ((a / 12) + 0) 0 11) = true by rw [c22]; decide)], rfl⟩
          · skip
            refine e_cn (pc' := 71) i127_69 rfl ?_
            refine e_ld (pc' := 72) i127_71 rfl rfl ?_
            refine e_ib (z := 12 * ((a / 12) + 0)) (pc' := 73) i127_72 rfl rfl ?_
            refine e_ld (pc' := 74) i127_73 rfl rfl ?_
            refine e_ib (z := (12 * ((a / 12) + 0)) + ((a - a / 12 * 12) + 1)) (pc' := 75) i127_74 rfl rfl ?_
            refine e_go i127_75 ?_
            refine e_rt i127_79 rfl ?_
            exact ⟨by unfold F127; simp only [if_pos (show b = 1 from (Decidable.not_not.mp (of_decide_eq_false c1))), if_neg (show ¬ (b = 2) from (of_decide_eq_true c19)), if_neg (show ¬ (b = 0) from (of_decide_eq_true c20)), if_pos c21, if_pos c22], rfl⟩
      · skip
        refine e_cn (pc' := 43) i127_42 rfl ?_
        refine e_go i127_43 ?_
        refine e_ib (z := (a / 12) + (-1)) (pc' := 48) i127_47 rfl rfl ?_
        refine e_st (ls' := [some (.int a), some (.int b), some (.int ((a - a / 12 * 12) + 1)), some (.int ((a / 12) + (-1)))]) (pc' := 49) i127_48 rfl rfl rfl ?_
        refine e_ld (pc' := 50) i127_49 rfl rfl ?_
        refine e_cn (pc' := 51) i127_50 rfl ?_
        refine e_cn (pc' := 53) i127_51 rfl ?_
        refine e_cI (w := .int (b2i (x_in3 ((a - a / 12 * 12) + 1) 0 11))) (As := [.int ((a - a / 12 * 12) + 1), .int 0, .int 11]) (rest := []) (pc' := 56) i127_53 rfl rfl rfl rfl rfl m123 ?_
        refine e_b0 (pc' := 59) i127_56 rfl (fun c23 => ?_) (fun c23 => ?_)
        · skip
          refine e_cn (pc' := 79) i127_78 rfl ?_
          refine e_rt i127_79 rfl ?_
          exact ⟨by unfold F127; simp only [if_pos (show b = 1 from (Decidable.not_not.mp (of_decide_eq_false c1))), if_neg (show ¬ (b = 2) from (of_decide_eq_true c19)), if_pos (show b = 0 from (Decidable.not_not.mp (of_decide_eq_false c20))), if_neg (show ¬ (x_in3 ((a - a / 12 * 12) + 1) 0 11) = true by rw [c23]; decide)], rfl⟩
        · skip
          refine e_ld (pc' := 60) i127_59 rfl rfl ?_
          refine e_cn (pc' := 61) i127_60 rfl ?_
          refine e_cn (pc' := 63) i127_61 rfl ?_
          refine e_cI (w := .int (b2i (x_in3 ((a / 12) + (-1)) 0 11))) (As := [.int ((a / 12) + (-1)), .int 0, .int 11]) (rest := []) (pc' := 66) i127_63 rfl rfl rfl rfl rfl m123 ?_
          refine e_b0 (pc' := 69) i127_66 rfl (fun c24 => ?_) (fun c24 => ?_)
          · skip
            refine e_cn (pc' := 79) i127_78 rfl ?_
            refine e_rt i127_79 rfl ?_
            exact ⟨by unfold F127; simp only [if_pos (show b = 1 from (Decidable.not_not.mp (of_decide_eq_false c1))), if_neg (show ¬ (b = 2) from (of_decide_eq_true c19)), if_pos (show b = 0 from (Decidable.not_not.mp (of_decide_eq_false c20))), if_pos c23, if_neg (show ¬ (x_in3 ((a / 12) + (-1)) 0 11) = true by rw [c24]; decide)], rfl⟩
          · skip
            refine e_cn (pc' := 71) i127_69 rfl ?_
            refine e_ld (pc' := 72) i127_71 rfl rfl ?_
            refine e_ib (z := 12 * ((a / 12) + (-1))) (pc' := 73) i127_72 rfl rfl ?_
            refine e_ld (pc' := 74) i127_73 rfl rfl ?_
            refine e_ib (z := (12 * ((a / 12) + (-1))) + ((a - a / 12 * 12) + 1)) (pc' := 75) i127_74 rfl rfl ?_
            refine e_go i127_75 ?_
            refine e_rt i127_79 rfl ?_
            exact ⟨by unfold F127; simp only [if_pos (show b = 1 from (Decidable.not_not.mp (of_decide_eq_false c1))), if_neg (show ¬ (b = 2) from (of_decide_eq_true c19)), if_pos (show b = 0 from (Decidable.not_not.mp (of_decide_eq_false c20))), if_pos c23, if_pos c24], rfl⟩
    · skip
      refine e_cn (pc' := 35) i127_34 rfl ?_
      refine e_go i127_35 ?_
      refine e_ib (z := (a / 12) + 1) (pc' := 48) i127_47 rfl rfl ?_
      refine e_st (ls' := [some (.int a), some (.int b), some (.int ((a - a / 12 * 12) + 1)), some (.int ((a / 12) + 1))]) (pc' := 49) i127_48 rfl rfl rfl ?_
      refine e_ld (pc' := 50) i127_49 rfl rfl ?_
      refine e_cn (pc' := 51) i127_50 rfl ?_
      refine e_cn (pc' := 53) i127_51 rfl ?_
      refine e_cI (w := .int (b2i (x_in3 ((a - a / 12 * 12) + 1) 0 11))) (As := [.int ((a - a / 12 * 12) + 1), .int 0, .int 11]) (rest := []) (pc' := 56) i127_53 rfl rfl rfl rfl rfl m123 ?_
      refine e_b0 (pc' := 59) i127_56 rfl (fun c25 => ?_) (fun c25 => ?_)
      · skip
        refine e_cn (pc' := 79) i127_78 rfl ?_
        refine e_rt i127_79 rfl ?_
        exact ⟨by unfold F127; simp only [if_pos (show b = 1 from (Decidable.not_not.mp (of_decide_eq_false c1))), if_pos (show b = 2 from (Decidable.not_not.mp (of_decide_eq_false c19))), if_neg (show ¬ (x_in3 ((a - a / 12 * 12) + 1) 0 11) = true by rw [c25]; decide)], rfl⟩
      · skip
        refine e_ld (pc' := 60) i127_59 rfl rfl ?_
        refine e_cn (pc' := 61) i127_60 rfl ?_
        refine e_cn (pc' := 63) i127_61 rfl ?_
        refine e_cI (w := .int (b2i (x_in3 ((a / 12) + 1) 0 11))) (As := [.int ((a / 12) + 1), .int 0, .int 11]) (rest := []) (pc' := 66) i127_63 rfl rfl rfl rfl rfl m123 ?_
        refine e_b0 (pc' := 69) i127_66 rfl (fun c26 => ?_) (fun c26 => ?_)
        · skip
          refine e_cn (pc' := 79) i127_78 rfl ?_
          refine e_rt i127_79 rfl ?_
          exact ⟨by unfold F127; simp only [if_pos (show b = 1 from (Decidable.not_not.mp (of_decide_eq_false c1))), if_pos (show b = 2 from (Decidable.not_not.mp (of_decide_eq_false c19))), if_pos c25, if_neg (show ¬ (x_in3 ((a / 12) + 1) 0 11) = true by rw [c26]; decide)], rfl⟩
        · skip
          refine e_cn (pc' := 71) i127_69 rfl ?_
          refine e_ld (pc' := 72) i127_71 rfl rfl ?_
          refine e_ib (z := 12 * ((a / 12) + 1)) (pc' := 73) i127_72 rfl rfl ?_
          refine e_ld (pc' := 74) i127_73 rfl rfl ?_
          refine e_ib (z := (12 * ((a / 12) + 1)) + ((a - a / 12 * 12) + 1)) (pc' := 75) i127_74 rfl rfl ?_
          refine e_go i127_75 ?_
          refine e_rt i127_79 rfl ?_
          exact ⟨by unfold F127; simp only [if_pos (show b = 1 from (Decidable.not_not.mp (of_decide_eq_false c1))), if_pos (show b = 2 from (Decidable.not_not.mp (of_decide_eq_false c19))), if_pos c25, if_pos c26], rfl⟩
/-- FloorTurnModel.leads(II)Z -/
def F128 (a : Int32) (b : Int32) (h : Hp) : Bool := if (gI h 405 a.toNatClampNeg) = 4 then (if (((gI h 406 a.toNatClampNeg) >>> ((b : Int32) &&& 31)) &&& 1) = 1 then (true) else (false)) else (if (gI h 405 a.toNatClampNeg) = 0 then (false) else (if (gI h 405 a.toNatClampNeg) = 7 then (false) else (if (gI h 406 a.toNatClampNeg) = b then (true) else (false))))
def P128 (a : Int32) (b : Int32) (h : Hp) : Prop := (vp_in a 144) ∧ ((((gI h 405 a.toNatClampNeg) = 4) → ((vp_in a 144) ∧ ((((((gI h 406 a.toNatClampNeg) >>> ((b : Int32) &&& 31)) &&& 1) = 1) → (True)) ∧ (¬ ((((gI h 406 a.toNatClampNeg) >>> ((b : Int32) &&& 31)) &&& 1) = 1) → (True))))) ∧ (¬ ((gI h 405 a.toNatClampNeg) = 4) → ((((gI h 405 a.toNatClampNeg) = 0) → (True)) ∧ (¬ ((gI h 405 a.toNatClampNeg) = 0) → ((((gI h 405 a.toNatClampNeg) = 7) → (True)) ∧ (¬ ((gI h 405 a.toNatClampNeg) = 7) → ((vp_in a 144) ∧ ((((gI h 406 a.toNatClampNeg) = b) → (True)) ∧ (¬ ((gI h 406 a.toNatClampNeg) = b) → (True))))))))))
set_option maxHeartbeats 8000000 in
theorem m128 {L : Nat} {xs : Nat → Int32} {h : Hp} {a : Int32} {b : Int32} (hn : 444 ≤ h.1) (hL : LK h) (hP : P128 a b h) : Sp L xs 128 [.ref 397, .int a, .int b] h (some (.int (b2i (F128 a b h)))) h := by
  unfold P128 at hP
  refine sp_of (ls := [some (.ref 397), some (.int a), some (.int b), none]) rfl ?_
  refine e_ld (pc' := 1) i128_0 rfl rfl ?_
  refine e_get (w := .ref 405) (pc' := 4) i128_1 rfl (x_isC (by decide) hn sh397) (x_fvR (by decide +kernel) (hL 397 8 405 lk397_8)) ?_
  refine e_ld (pc' := 5) i128_4 rfl rfl ?_
  obtain ⟨g1, hP⟩ := hP
  refine e_al (n := a.toNatClampNeg) (w := .int (gI h 405 a.toNatClampNeg)) (pc' := 6) i128_5 rfl (x_alX (a := 20) (by decide) hn sh405 (by decide) g1) rfl rfl ?_
  refine e_st (ls' := [some (.ref 397), some (.int a), some (.int b), some (.int (gI h 405 a.toNatClampNeg))]) (pc' := 7) i128_6 rfl rfl rfl ?_
  refine e_ld (pc' := 8) i128_7 rfl rfl ?_
  refine e_cn (pc' := 9) i128_8 rfl ?_
  refine e_ic (pc' := 12) i128_9 rfl (fun c2 => ?_) (fun c2 => ?_)
  · replace hP := hP.2 (of_decide_eq_true c2)
    refine e_ld (pc' := 35) i128_34 rfl rfl ?_
    refine e_if (pc' := 38) i128_35 rfl (fun c3 => ?_) (fun c3 => ?_)
    · replace hP := hP.1 (of_decide_eq_true c3)
      refine e_cn (pc' := 59) i128_58 rfl ?_
      refine e_rt i128_59 rfl ?_
      exact ⟨by unfold F128; simp only [if_neg (show ¬ ((gI h 405 a.toNatClampNeg) = 4) from (of_decide_eq_true c2)), if_pos (show (gI h 405 a.toNatClampNeg) = 0 from (of_decide_eq_true c3))]; rfl, rfl⟩
    · replace hP := hP.2 (of_decide_eq_false c3)
      refine e_ld (pc' := 39) i128_38 rfl rfl ?_
      refine e_cn (pc' := 41) i128_39 rfl ?_
      refine e_ic (pc' := 44) i128_41 rfl (fun c4 => ?_) (fun c4 => ?_)
      · replace hP := hP.1 (of_decide_eq_true c4)
        refine e_cn (pc' := 59) i128_58 rfl ?_
        refine e_rt i128_59 rfl ?_
        exact ⟨by unfold F128; simp only [if_neg (show ¬ ((gI h 405 a.toNatClampNeg) = 4) from (of_decide_eq_true c2)), if_neg (show ¬ ((gI h 405 a.toNatClampNeg) = 0) from (of_decide_eq_false c3)), if_pos (show (gI h 405 a.toNatClampNeg) = 7 from (of_decide_eq_true c4))]; rfl, rfl⟩
      · replace hP := hP.2 (of_decide_eq_false c4)
        refine e_ld (pc' := 45) i128_44 rfl rfl ?_
        refine e_get (w := .ref 406) (pc' := 48) i128_45 rfl (x_isC (by decide) hn sh397) (x_fvR (by decide +kernel) (hL 397 9 406 lk397_9)) ?_
        refine e_ld (pc' := 49) i128_48 rfl rfl ?_
        obtain ⟨g5, hP⟩ := hP
        refine e_al (n := a.toNatClampNeg) (w := .int (gI h 406 a.toNatClampNeg)) (pc' := 50) i128_49 rfl (x_alX (a := 20) (by decide) hn sh406 (by decide) g5) rfl rfl ?_
        refine e_ld (pc' := 51) i128_50 rfl rfl ?_
        refine e_ic (pc' := 54) i128_51 rfl (fun c6 => ?_) (fun c6 => ?_)
        · replace hP := hP.2 (of_decide_eq_true c6)
          refine e_cn (pc' := 59) i128_58 rfl ?_
          refine e_rt i128_59 rfl ?_
          exact ⟨by unfold F128; simp only [if_neg (show ¬ ((gI h 405 a.toNatClampNeg) = 4) from (of_decide_eq_true c2)), if_neg (show ¬ ((gI h 405 a.toNatClampNeg) = 0) from (of_decide_eq_false c3)), if_neg (show ¬ ((gI h 405 a.toNatClampNeg) = 7) from (of_decide_eq_false c4)), if_neg (show ¬ ((gI h 406 a.toNatClampNeg) = b) from (of_decide_eq_true c6))]; rfl, rfl⟩
        · replace hP := hP.1 (Decidable.not_not.mp (of_decide_eq_false c6))
          refine e_cn (pc' := 55) i128_54 rfl ?_
          refine e_go i128_55 ?_
          refine e_rt i128_59 rfl ?_
          exact ⟨by unfold F128; simp only [if_neg (show ¬ ((gI h 405 a.toNatClampNeg) = 4) from (of_decide_eq_true c2)), if_neg (show ¬ ((gI h 405 a.toNatClampNeg) = 0) from (of_decide_eq_false c3)), if_neg (show ¬ ((gI h 405 a.toNatClampNeg) = 7) from (of_decide_eq_false c4)), if_pos (show (gI h 406 a.toNatClampNeg) = b from (Decidable.not_not.mp (of_decide_eq_false c6)))]; rfl, rfl⟩
  · replace hP := hP.1 (Decidable.not_not.mp (of_decide_eq_false c2))
    refine e_ld (pc' := 13) i128_12 rfl rfl ?_
    refine e_get (w := .ref 406) (pc' := 16) i128_13 rfl (x_isC (by decide) hn sh397) (x_fvR (by decide +kernel) (hL 397 9 406 lk397_9)) ?_
    refine e_ld (pc' := 17) i128_16 rfl rfl ?_
    obtain ⟨g7, hP⟩ := hP
    refine e_al (n := a.toNatClampNeg) (w := .int (gI h 406 a.toNatClampNeg)) (pc' := 18) i128_17 rfl (x_alX (a := 20) (by decide) hn sh406 (by decide) g7) rfl rfl ?_
    refine e_ld (pc' := 19) i128_18 rfl rfl ?_
    refine e_ib (z := (gI h 406 a.toNatClampNeg) >>> ((b : Int32) &&& 31)) (pc' := 20) i128_19 rfl rfl ?_
    refine e_cn (pc' := 21) i128_20 rfl ?_
    refine e_ib (z := ((gI h 406 a.toNatClampNeg) >>> ((b : Int32) &&& 31)) &&& 1) (pc' := 22) i128_21 rfl rfl ?_
    refine e_cn (pc' := 23) i128_22 rfl ?_
    refine e_ic (pc' := 26) i128_23 rfl (fun c8 => ?_) (fun c8 => ?_)
    · replace hP := hP.2 (of_decide_eq_true c8)
      refine e_cn (pc' := 31) i128_30 rfl ?_
      refine e_go i128_31 ?_
      refine e_rt i128_59 rfl ?_
      exact ⟨by unfold F128; simp only [if_pos (show (gI h 405 a.toNatClampNeg) = 4 from (Decidable.not_not.mp (of_decide_eq_false c2))), if_neg (show ¬ ((((gI h 406 a.toNatClampNeg) >>> ((b : Int32) &&& 31)) &&& 1) = 1) from (of_decide_eq_true c8))]; rfl, rfl⟩
    · replace hP := hP.1 (Decidable.not_not.mp (of_decide_eq_false c8))
      refine e_cn (pc' := 27) i128_26 rfl ?_
      refine e_go i128_27 ?_
      refine e_rt i128_59 rfl ?_
      exact ⟨by unfold F128; simp only [if_pos (show (gI h 405 a.toNatClampNeg) = 4 from (Decidable.not_not.mp (of_decide_eq_false c2))), if_pos (show (((gI h 406 a.toNatClampNeg) >>> ((b : Int32) &&& 31)) &&& 1) = 1 from (Decidable.not_not.mp (of_decide_eq_false c8)))]; rfl, rfl⟩
/-- FloorTurnModel.many(I)I -/
def F131 (a : Int32) (h : Hp) : Int32 := (((a &&& 1) + ((a >>> ((1 : Int32) &&& 31)) &&& 1)) + ((a >>> ((2 : Int32) &&& 31)) &&& 1)) + ((a >>> ((3 : Int32) &&& 31)) &&& 1)
set_option maxHeartbeats 8000000 in
theorem m131 {L : Nat} {xs : Nat → Int32} {h : Hp} {a : Int32}  : Sp L xs 131 [.int a] h (some (.int (F131 a h))) h := by
  refine sp_of (ls := [some (.int a)]) rfl ?_
  refine e_ld (pc' := 1) i131_0 rfl rfl ?_
  refine e_cn (pc' := 2) i131_1 rfl ?_
  refine e_ib (z := a &&& 1) (pc' := 3) i131_2 rfl rfl ?_
  refine e_ld (pc' := 4) i131_3 rfl rfl ?_
  refine e_cn (pc' := 5) i131_4 rfl ?_
  refine e_ib (z := a >>> ((1 : Int32) &&& 31)) (pc' := 6) i131_5 rfl rfl ?_
  refine e_cn (pc' := 7) i131_6 rfl ?_
  refine e_ib (z := (a >>> ((1 : Int32) &&& 31)) &&& 1) (pc' := 8) i131_7 rfl rfl ?_
  refine e_ib (z := (a &&& 1) + ((a >>> ((1 : Int32) &&& 31)) &&& 1)) (pc' := 9) i131_8 rfl rfl ?_
  refine e_ld (pc' := 10) i131_9 rfl rfl ?_
  refine e_cn (pc' := 11) i131_10 rfl ?_
  refine e_ib (z := a >>> ((2 : Int32) &&& 31)) (pc' := 12) i131_11 rfl rfl ?_
  refine e_cn (pc' := 13) i131_12 rfl ?_
  refine e_ib (z := (a >>> ((2 : Int32) &&& 31)) &&& 1) (pc' := 14) i131_13 rfl rfl ?_
  refine e_ib (z := ((a &&& 1) + ((a >>> ((1 : Int32) &&& 31)) &&& 1)) + ((a >>> ((2 : Int32) &&& 31)) &&& 1)) (pc' := 15) i131_14 rfl rfl ?_
  refine e_ld (pc' := 16) i131_15 rfl rfl ?_
  refine e_cn (pc' := 17) i131_16 rfl ?_
  refine e_ib (z := a >>> ((3 : Int32) &&& 31)) (pc' := 18) i131_17 rfl rfl ?_
  refine e_cn (pc' := 19) i131_18 rfl ?_
  refine e_ib (z := (a >>> ((3 : Int32) &&& 31)) &&& 1) (pc' := 20) i131_19 rfl rfl ?_
  refine e_ib (z := (((a &&& 1) + ((a >>> ((1 : Int32) &&& 31)) &&& 1)) + ((a >>> ((2 : Int32) &&& 31)) &&& 1)) + ((a >>> ((3 : Int32) &&& 31)) &&& 1)) (pc' := 21) i131_20 rfl rfl ?_
  refine e_rt i131_21 rfl ?_
  exact ⟨by unfold F131; skip; rfl, rfl⟩
/-- FloorTurnModel.built(IIIII)I -/
def F132 (a : Int32) (b : Int32) (c : Int32) (d : Int32) (e : Int32) (h : Hp) : Int32 := if (x_isCell a) = true then (if b = 6 then (if (x_in3 d 0 ((gI h 397 1) - 1)) = true then (if (x_in3 b 1 7) = true then (if b = 7 then (if b = 5 then (if (x_isItem d) = true then (if (x_in3 e 1 60) = true then (if (gI h 405 a.toNatClampNeg) = 0 then (1) else ((-6))) else ((-6))) else ((-6))) else (if (gI h 405 a.toNatClampNeg) = 0 then (1) else ((-6)))) else (if b = 4 then (if (x_in3 c 1 15) = true then (if (x_in3 (F131 c h) 2 3) = true then (if b = 5 then (if (x_isItem d) = true then (if (x_in3 e 1 60) = true then (if (gI h 405 a.toNatClampNeg) = 0 then (1) else ((-6))) else ((-6))) else ((-6))) else (if (gI h 405 a.toNatClampNeg) = 0 then (1) else ((-6)))) else ((-6))) else ((-6))) else (if (x_in3 c 0 3) = true then (if b = 5 then (if (x_isItem d) = true then (if (x_in3 e 1 60) = true then (if (gI h 405 a.toNatClampNeg) = 0 then (1) else ((-6))) else ((-6))) else ((-6))) else (if (gI h 405 a.toNatClampNeg) = 0 then (1) else ((-6)))) else ((-6))))) else ((-6))) else ((-1))) else (if (x_in3 b 1 7) = true then (if b = 7 then (if b = 5 then (if (x_isItem d) = true then (if (x_in3 e 1 60) = true then (if (gI h 405 a.toNatClampNeg) = 0 then (1) else ((-6))) else ((-6))) else ((-6))) else (if (gI h 405 a.toNatClampNeg) = 0 then (1) else ((-6)))) else (if b = 4 then (if (x_in3 c 1 15) = true then (if (x_in3 (F131 c h) 2 3) = true then (if b = 5 then (if (x_isItem d) = true then (if (x_in3 e 1 60) = true then (if (gI h 405 a.toNatClampNeg) = 0 then (1) else ((-6))) else ((-6))) else ((-6))) else (if (gI h 405 a.toNatClampNeg) = 0 then (1) else ((-6)))) else ((-6))) else ((-6))) else (if (x_in3 c 0 3) = true then (if b = 5 then (if (x_isItem d) = true then (if (x_in3 e 1 60) = true then (if (gI h 405 a.toNatClampNeg) = 0 then (1) else ((-6))) else ((-6))) else ((-6))) else (if (gI h 405 a.toNatClampNeg) = 0 then (1) else ((-6)))) else ((-6))))) else ((-6)))) else ((-1))
def P132 (a : Int32) (b : Int32) (c : Int32) (d : Int32) (e : Int32) (h : Hp) : Prop := (((x_isCell a) = true) → (((b = 6) → ((((x_in3 d 0 ((gI h 397 1) - 1)) = true) → ((((x_in3 b 1 7) = true) → (((b = 7) → (((b = 5) → ((((x_isItem d) = true) → ((((x_in3 e 1 60) = true) → ((vp_in a 144) ∧ ((((gI h 405 a.toNatClampNeg) = 0) → (True)) ∧ (¬ ((gI h 405 a.toNatClampNeg) = 0) → (True))))) ∧ (¬ ((x_in3 e 1 60) = true) → (True)))) ∧ (¬ ((x_isItem d) = true) → (True)))) ∧ (¬ (b = 5) → ((vp_in a 144) ∧ ((((gI h 405 a.toNatClampNeg) = 0) → (True)) ∧ (¬ ((gI h 405 a.toNatClampNeg) = 0) → (True))))))) ∧ (¬ (b = 7) → (((b = 4) → ((((x_in3 c 1 15) = true) → ((((x_in3 (F131 c h) 2 3) = true) → (((b = 5) → ((((x_isItem d) = true) → ((((x_in3 e 1 60) = true) → ((vp_in a 144) ∧ ((((gI h 405 a.toNatClampNeg) = 0) → (True)) ∧ (¬ ((gI h 405 a.toNatClampNeg) = 0) → (True))))) ∧ (¬ ((x_in3 e 1 60) = true) → (True)))) ∧ (¬ ((x_isItem d) = true) → (True)))) ∧ (¬ (b = 5) → ((vp_in a 144) ∧ ((((gI h 405 a.toNatClampNeg) = 0) → (True)) ∧ (¬ ((gI h 405 a.toNatClampNeg) = 0) → (True))))))) ∧ (¬ ((x_in3 (F131 c h) 2 3) = true) → (True)))) ∧ (¬ ((x_in3 c 1 15) = true) → (True)))) ∧ (¬ (b = 4) → ((((x_in3 c 0 3) = true) → (((b = 5) → ((((x_isItem d) = true) → ((((x_in3 e 1 60) = true) → ((vp_in a 144) ∧ ((((gI h 405 a.toNatClampNeg) = 0) → (True)) ∧ (¬ ((gI h 405 a.toNatClampNeg) = 0) → (True))))) ∧ (¬ ((x_in3 e 1 60) = true) → (True)))) ∧ (¬ ((x_isItem d) = true) → (True)))) ∧ (¬ (b = 5) → ((vp_in a 144) ∧ ((((gI h 405 a.toNatClampNeg) = 0) → (True)) ∧ (¬ ((gI h 405 a.toNatClampNeg) = 0) → (True))))))) ∧ (¬ ((x_in3 c 0 3) = true) → (True)))))))) ∧ (¬ ((x_in3 b 1 7) = true) → (True)))) ∧ (¬ ((x_in3 d 0 ((gI h 397 1) - 1)) = true) → (True)))) ∧ (¬ (b = 6) → ((((x_in3 b 1 7) = true) → (((b = 7) → (((b = 5) → ((((x_isItem d) = true) → ((((x_in3 e 1 60) = true) → ((vp_in a 144) ∧ ((((gI h 405 a.toNatClampNeg) = 0) → (True)) ∧ (¬ ((gI h 405 a.toNatClampNeg) = 0) → (True))))) ∧ (¬ ((x_in3 e 1 60) = true) → (True)))) ∧ (¬ ((x_isItem d) = true) → (True)))) ∧ (¬ (b = 5) → ((vp_in a 144) ∧ ((((gI h 405 a.toNatClampNeg) = 0) → (True)) ∧ (¬ ((gI h 405 a.toNatClampNeg) = 0) → (True))))))) ∧ (¬ (b = 7) → (((b = 4) → ((((x_in3 c 1 15) = true) → ((((x_in3 (F131 c h) 2 3) = true) → (((b = 5) → ((((x_isItem d) = true) → ((((x_in3 e 1 60) = true) → ((vp_in a 144) ∧ ((((gI h 405 a.toNatClampNeg) = 0) → (True)) ∧ (¬ ((gI h 405 a.toNatClampNeg) = 0) → (True))))) ∧ (¬ ((x_in3 e 1 60) = true) → (True)))) ∧ (¬ ((x_isItem d) = true) → (True)))) ∧ (¬ (b = 5) → ((vp_in a 144) ∧ ((((gI h 405 a.toNatClampNeg) = 0) → (True)) ∧ (¬ ((gI h 405 a.toNatClampNeg) = 0) → (True))))))) ∧ (¬ ((x_in3 (F131 c h) 2 3) = true) → (True)))) ∧ (¬ ((x_in3 c 1 15) = true) → (True)))) ∧ (¬ (b = 4) → ((((x_in3 c 0 3) = true) → (((b = 5) → ((((x_isItem d) = true) → ((((x_in3 e 1 60) = true) → ((vp_in a 144) ∧ ((((gI h 405 a.toNatClampNeg) = 0) → (True)) ∧ (¬ ((gI h 405 a.toNatClampNeg) = 0) → (True))))) ∧ (¬ ((x_in3 e 1 60) = true) → (True)))) ∧ (¬ ((x_isItem d) = true) → (True)))) ∧ (¬ (b = 5) → ((vp_in a 144) ∧ ((((gI h 405 a.toNatClampNeg) = 0) → (True)) ∧ (¬ ((gI h 405 a.toNatClampNeg) = 0) → (True))))))) ∧ (¬ ((x_in3 c 0 3) = true) → (True)))))))) ∧ (¬ ((x_in3 b 1 7) = true) → (True)))))) ∧ (¬ ((x_isCell a) = true) → (True))
set_option maxHeartbeats 8000000 in
theorem m132 {L : Nat} {xs : Nat → Int32} {h : Hp} {a : Int32} {b : Int32} {c : Int32} {d : Int32} {e : Int32} (hn : 444 ≤ h.1) (hL : LK h) (hP : P132 a b c d e h) : Sp L xs 132 [.ref 397, .int a, .int b, .int c, .int d, .int e] h (some (.int (F132 a b c d e h))) h := by
  unfold P132 at hP
  refine sp_of (ls := [some (.ref 397), some (.int a), some (.int b), some (.int c), some (.int d), some (.int e), none]) rfl ?_
  refine e_ld (pc' := 1) i132_0 rfl rfl ?_
  refine e_cI (w := .int (b2i (x_isCell a))) (As := [.int a]) (rest := []) (pc' := 4) i132_1 rfl rfl rfl rfl rfl m125 ?_
  refine e_b0 (pc' := 7) i132_4 rfl (fun c1 => ?_) (fun c1 => ?_)
  · replace hP := hP.2 (show ¬ (x_isCell a) = true by rw [c1]; decide)
    refine e_cn (pc' := 29) i132_28 rfl ?_
    refine e_rt i132_29 rfl ?_
    exact ⟨by unfold F132; simp only [if_neg (show ¬ (x_isCell a) = true by rw [c1]; decide)], rfl⟩
  · replace hP := hP.1 c1
    refine e_ld (pc' := 8) i132_7 rfl rfl ?_
    refine e_cn (pc' := 10) i132_8 rfl ?_
    refine e_ic (pc' := 13) i132_10 rfl (fun c2 => ?_) (fun c2 => ?_)
    · replace hP := hP.2 (of_decide_eq_true c2)
      refine e_ld (pc' := 31) i132_30 rfl rfl ?_
      refine e_cn (pc' := 32) i132_31 rfl ?_
      refine e_cn (pc' := 34) i132_32 rfl ?_
      refine e_cI (w := .int (b2i (x_in3 b 1 7))) (As := [.int b, .int 1, .int 7]) (rest := []) (pc' := 37) i132_34 rfl rfl rfl rfl rfl m123 ?_
      refine e_b0 (pc' := 40) i132_37 rfl (fun c3 => ?_) (fun c3 => ?_)
      · replace hP := hP.2 (show ¬ (x_in3 b 1 7) = true by rw [c3]; decide)
        refine e_cn (pc' := 90) i132_89 rfl ?_
        refine e_st (ls' := [some (.ref 397), some (.int a), some (.int b), some (.int c), some (.int d), some (.int e), some (.int 0)]) (pc' := 92) i132_90 rfl rfl rfl ?_
        refine e_ld (pc' := 94) i132_92 rfl rfl ?_
        refine e_ifT i132_94 (by decide) ?_
        refine e_cn (pc' := 126) i132_125 rfl ?_
        refine e_st (ls' := [some (.ref 397), some (.int a), some (.int b), some (.int c), some (.int d), some (.int e), some (.int 0)]) (pc' := 128) i132_126 rfl rfl rfl ?_
        refine e_ld (pc' := 130) i132_128 rfl rfl ?_
        refine e_ifT i132_130 (by decide) ?_
        refine e_cn (pc' := 148) i132_146 rfl ?_
        refine e_rt i132_148 rfl ?_
        exact ⟨by unfold F132; simp only [if_pos c1, if_neg (show ¬ (b = 6) from (of_decide_eq_true c2)), if_neg (show ¬ (x_in3 b 1 7) = true by rw [c3]; decide)], rfl⟩
      · replace hP := hP.1 c3
        refine e_ld (pc' := 41) i132_40 rfl rfl ?_
        refine e_cn (pc' := 43) i132_41 rfl ?_
        refine e_ic (pc' := 46) i132_43 rfl (fun c4 => ?_) (fun c4 => ?_)
        · replace hP := hP.1 (of_decide_eq_true c4)
          refine e_cn (pc' := 86) i132_85 rfl ?_
          refine e_go i132_86 ?_
          refine e_st (ls' := [some (.ref 397), some (.int a), some (.int b), some (.int c), some (.int d), some (.int e), some (.int 1)]) (pc' := 92) i132_90 rfl rfl rfl ?_
          refine e_ld (pc' := 94) i132_92 rfl rfl ?_
          refine e_ifF (pc' := 97) i132_94 rfl (by decide) ?_
          refine e_ld (pc' := 98) i132_97 rfl rfl ?_
          refine e_cn (pc' := 99) i132_98 rfl ?_
          refine e_ic (pc' := 102) i132_99 rfl (fun c5 => ?_) (fun c5 => ?_)
          · replace hP := hP.2 (of_decide_eq_true c5)
            refine e_cn (pc' := 122) i132_121 rfl ?_
            refine e_go i132_122 ?_
            refine e_st (ls' := [some (.ref 397), some (.int a), some (.int b), some (.int c), some (.int d), some (.int e), some (.int 1)]) (pc' := 128) i132_126 rfl rfl rfl ?_
            refine e_ld (pc' := 130) i132_128 rfl rfl ?_
            refine e_ifF (pc' := 133) i132_130 rfl (by decide) ?_
            refine e_ld (pc' := 134) i132_133 rfl rfl ?_
            refine e_get (w := .ref 405) (pc' := 137) i132_134 rfl (x_isC (by decide) hn sh397) (x_fvR (by decide +kernel) (hL 397 8 405 lk397_8)) ?_
            refine e_ld (pc' := 138) i132_137 rfl rfl ?_
            obtain ⟨g6, hP⟩ := hP
            refine e_al (n := a.toNatClampNeg) (w := .int (gI h 405 a.toNatClampNeg)) (pc' := 139) i132_138 rfl (x_alX (a := 20) (by decide) hn sh405 (by decide) g6) rfl rfl ?_
            refine e_if (pc' := 142) i132_139 rfl (fun c7 => ?_) (fun c7 => ?_)
            · replace hP := hP.2 (of_decide_eq_true c7)
              refine e_cn (pc' := 148) i132_146 rfl ?_
              refine e_rt i132_148 rfl ?_
              exact ⟨by unfold F132; simp only [if_pos c1, if_neg (show ¬ (b = 6) from (of_decide_eq_true c2)), if_pos c3, if_pos (show b = 7 from (of_decide_eq_true c4)), if_neg (show ¬ (b = 5) from (of_decide_eq_true c5)), if_neg (show ¬ ((gI h 405 a.toNatClampNeg) = 0) from (of_decide_eq_true c7))], rfl⟩
            · replace hP := hP.1 (Decidable.not_not.mp (of_decide_eq_false c7))
              refine e_cn (pc' := 143) i132_142 rfl ?_
              refine e_go i132_143 ?_
              refine e_rt i132_148 rfl ?_
              exact ⟨by unfold F132; simp only [if_pos c1, if_neg (show ¬ (b = 6) from (of_decide_eq_true c2)), if_pos c3, if_pos (show b = 7 from (of_decide_eq_true c4)), if_neg (show ¬ (b = 5) from (of_decide_eq_true c5)), if_pos (show (gI h 405 a.toNatClampNeg) = 0 from (Decidable.not_not.mp (of_decide_eq_false c7)))], rfl⟩
          · replace hP := hP.1 (Decidable.not_not.mp (of_decide_eq_false c5))
            refine e_ld (pc' := 104) i132_102 rfl rfl ?_
            refine e_cI (w := .int (b2i (x_isItem d))) (As := [.int d]) (rest := []) (pc' := 107) i132_104 rfl rfl rfl rfl rfl m126 ?_
            refine e_b0 (pc' := 110) i132_107 rfl (fun c8 => ?_) (fun c8 => ?_)
            · replace hP := hP.2 (show ¬ (x_isItem d) = true by rw [c8]; decide)
              refine e_cn (pc' := 126) i132_125 rfl ?_
              refine e_st (ls' := [some (.ref 397), some (.int a), some (.int b), some (.int c), some (.int d), some (.int e), some (.int 0)]) (pc' := 128) i132_126 rfl rfl rfl ?_
              refine e_ld (pc' := 130) i132_128 rfl rfl ?_
              refine e_ifT i132_130 (by decide) ?_
              refine e_cn (pc' := 148) i132_146 rfl ?_
              refine e_rt i132_148 rfl ?_
              exact ⟨by unfold F132; simp only [if_pos c1, if_neg (show ¬ (b = 6) from (of_decide_eq_true c2)), if_pos c3, if_pos (show b = 7 from (of_decide_eq_true c4)), if_pos (show b = 5 from (Decidable.not_not.mp (of_decide_eq_false c5))), if_neg (show ¬ (x_isItem d) = true by rw [c8]; decide)], rfl⟩
            · replace hP := hP.1 c8
              refine e_ld (pc' := 112) i132_110 rfl rfl ?_
              refine e_cn (pc' := 113) i132_112 rfl ?_
              refine e_cn (pc' := 115) i132_113 rfl ?_
              refine e_cI (w := .int (b2i (x_in3 e 1 60))) (As := [.int e, .int 1, .int 60]) (rest := []) (pc' := 118) i132_115 rfl rfl rfl rfl rfl m123 ?_
              refine e_b0 (pc' := 121) i132_118 rfl (fun c9 => ?_) (fun c9 => ?_)
              · replace hP := hP.2 (show ¬ (x_in3 e 1 60) = true by rw [c9]; decide)
                refine e_cn (pc' := 126) i132_125 rfl ?_
                refine e_st (ls' := [some (.ref 397), some (.int a), some (.int b), some (.int c), some (.int d), some (.int e), some (.int 0)]) (pc' := 128) i132_126 rfl rfl rfl ?_
                refine e_ld (pc' := 130) i132_128 rfl rfl ?_
                refine e_ifT i132_130 (by decide) ?_
                refine e_cn (pc' := 148) i132_146 rfl ?_
                refine e_rt i132_148 rfl ?_
                exact ⟨by unfold F132; simp only [if_pos c1, if_neg (show ¬ (b = 6) from (of_decide_eq_true c2)), if_pos c3, if_pos (show b = 7 from (of_decide_eq_true c4)), if_pos (show b = 5 from (Decidable.not_not.mp (of_decide_eq_false c5))), if_pos c8, if_neg (show ¬ (x_in3 e 1 60) = true by rw [c9]; decide)], rfl⟩
              · replace hP := hP.1 c9
                refine e_cn (pc' := 122) i132_121 rfl ?_
                refine e_go i132_122 ?_
                refine e_st (ls' := [some (.ref 397), some (.int a), some (.int b), some (.int c), some (.int d), some (.int e), some (.int 1)]) (pc' := 128) i132_126 rfl rfl rfl ?_
                refine e_ld (pc' := 130) i132_128 rfl rfl ?_
                refine e_ifF (pc' := 133) i132_130 rfl (by decide) ?_
                refine e_ld (pc' := 134) i132_133 rfl rfl ?_
                refine e_get (w := .ref 405) (pc' := 137) i132_134 rfl (x_isC (by decide) hn sh397) (x_fvR (by decide +kernel) (hL 397 8 405 lk397_8)) ?_
                refine e_ld (pc' := 138) i132_137 rfl rfl ?_
                obtain ⟨g10, hP⟩ := hP
                refine e_al (n := a.toNatClampNeg) (w := .int (gI h 405 a.toNatClampNeg)) (pc' := 139) i132_138 rfl (x_alX (a := 20) (by decide) hn sh405 (by decide) g10) rfl rfl ?_
                refine e_if (pc' := 142) i132_139 rfl (fun c11 => ?_) (fun c11 => ?_)
                · replace hP := hP.2 (of_decide_eq_true c11)
                  refine e_cn (pc' := 148) i132_146 rfl ?_
                  refine e_rt i132_148 rfl ?_
                  exact ⟨by unfold F132; simp only [if_pos c1, if_neg (show ¬ (b = 6) from (of_decide_eq_true c2)), if_pos c3, if_pos (show b = 7 from (of_decide_eq_true c4)), if_pos (show b = 5 from (Decidable.not_not.mp (of_decide_eq_false c5))), if_pos c8, if_pos c9, if_neg (show ¬ ((gI h 405 a.toNatClampNeg) = 0) from (of_decide_eq_true c11))], rfl⟩
                · replace hP := hP.1 (Decidable.not_not.mp (of_decide_eq_false c11))
                  refine e_cn (pc' := 143) i132_142 rfl ?_
                  refine e_go i132_143 ?_
                  refine e_rt i132_148 rfl ?_
                  exact ⟨by unfold F132; simp only [if_pos c1, if_neg (show ¬ (b = 6) from (of_decide_eq_true c2)), if_pos c3, if_pos (show b = 7 from (of_decide_eq_true c4)), if_pos (show b = 5 from (Decidable.not_not.mp (of_decide_eq_false c5))), if_pos c8, if_pos c9, if_pos (show (gI h 405 a.toNatClampNeg) = 0 from (Decidable.not_not.mp (of_decide_eq_false c11)))], rfl⟩
        · replace hP := hP.2 (of_decide_eq_false c4)
          refine e_ld (pc' := 47) i132_46 rfl rfl ?_
          refine e_cn (pc' := 48) i132_47 rfl ?_
          refine e_ic (pc' := 51) i132_48 rfl (fun c12 => ?_) (fun c12 => ?_)
          · replace hP := hP.2 (of_decide_eq_true c12)
            refine e_ld (pc' := 77) i132_76 rfl rfl ?_
            refine e_cn (pc' := 78) i132_77 rfl ?_
            refine e_cn (pc' := 79) i132_78 rfl ?_
            refine e_cI (w := .int (b2i (x_in3 c 0 3))) (As := [.int c, .int 0, .int 3]) (rest := []) (pc' := 82) i132_79 rfl rfl rfl rfl rfl m123 ?_
            refine e_b0 (pc' := 85) i132_82 rfl (fun c13 => ?_) (fun c13 => ?_)
            · replace hP := hP.2 (show ¬ (x_in3 c 0 3) = true by rw [c13]; decide)
              refine e_cn (pc' := 90) i132_89 rfl ?_
              refine e_st (ls' := [some (.ref 397), some (.int a), some (.int b), some (.int c), some (.int d), some (.int e), some (.int 0)]) (pc' := 92) i132_90 rfl rfl rfl ?_
              refine e_ld (pc' := 94) i132_92 rfl rfl ?_
              refine e_ifT i132_94 (by decide) ?_
              refine e_cn (pc' := 126) i132_125 rfl ?_
              refine e_st (ls' := [some (.ref 397), some (.int a), some (.int b), some (.int c), some (.int d), some (.int e), some (.int 0)]) (pc' := 128) i132_126 rfl rfl rfl ?_
              refine e_ld (pc' := 130) i132_128 rfl rfl ?_
              refine e_ifT i132_130 (by decide) ?_
              refine e_cn (pc' := 148) i132_146 rfl ?_
              refine e_rt i132_148 rfl ?_
              exact ⟨by unfold F132; simp only [if_pos c1, if_neg (show ¬ (b = 6) from (of_decide_eq_true c2)), if_pos c3, if_neg (show ¬ (b = 7) from (of_decide_eq_false c4)), if_neg (show ¬ (b = 4) from (of_decide_eq_true c12)), if_neg (show ¬ (x_in3 c 0 3) = true by rw [c13]; decide)], rfl⟩
            · replace hP := hP.1 c13
              refine e_cn (pc' := 86) i132_85 rfl ?_
              refine e_go i132_86 ?_
              refine e_st (ls' := [some (.ref 397), some (.int a), some (.int b), some (.int c), some (.int d), some (.int e), some (.int 1)]) (pc' := 92) i132_90 rfl rfl rfl ?_
              refine e_ld (pc' := 94) i132_92 rfl rfl ?_
              refine e_ifF (pc' := 97) i132_94 rfl (by decide) ?_
              refine e_ld (pc' := 98) i132_97 rfl rfl ?_
              refine e_cn (pc' := 99) i132_98 rfl ?_
              refine e_ic (pc' := 102) i132_99 rfl (fun c14 => ?_) (fun c14 => ?_)
              · replace hP := hP.2 (of_decide_eq_true c14)
                refine e_cn (pc' := 122) i132_121 rfl ?_
                refine e_go i132_122 ?_
                refine e_st (ls' := [some (.ref 397), some (.int a), some (.int b), some (.int c), some (.int d), some (.int e), some (.int 1)]) (pc' := 128) i132_126 rfl rfl rfl ?_
                refine e_ld (pc' := 130) i132_128 rfl rfl ?_
                refine e_ifF (pc' := 133) i132_130 rfl (by decide) ?_
                refine e_ld (pc' := 134) i132_133 rfl rfl ?_
                refine e_get (w := .ref 405) (pc' := 137) i132_134 rfl (x_isC (by decide) hn sh397) (x_fvR (by decide +kernel) (hL 397 8 405 lk397_8)) ?_
                refine e_ld (pc' := 138) i132_137 rfl rfl ?_
                obtain ⟨g15, hP⟩ := hP
                refine e_al (n := a.toNatClampNeg) (w := .int (gI h 405 a.toNatClampNeg)) (pc' := 139) i132_138 rfl (x_alX (a := 20) (by decide) hn sh405 (by decide) g15) rfl rfl ?_
                refine e_if (pc' := 142) i132_139 rfl (fun c16 => ?_) (fun c16 => ?_)
                · replace hP := hP.2 (of_decide_eq_true c16)
                  refine e_cn (pc' := 148) i132_146 rfl ?_
                  refine e_rt i132_148 rfl ?_
                  exact ⟨by unfold F132; simp only [if_pos c1, if_neg (show ¬ (b = 6) from (of_decide_eq_true c2)), if_pos c3, if_neg (show ¬ (b = 7) from (of_decide_eq_false c4)), if_neg (show ¬ (b = 4) from (of_decide_eq_true c12)), if_pos c13, if_neg (show ¬ (b = 5) from (of_decide_eq_true c14)), if_neg (show ¬ ((gI h 405 a.toNatClampNeg) = 0) from (of_decide_eq_true c16))], rfl⟩
                · replace hP := hP.1 (Decidable.not_not.mp (of_decide_eq_false c16))
                  refine e_cn (pc' := 143) i132_142 rfl ?_
                  refine e_go i132_143 ?_
                  refine e_rt i132_148 rfl ?_
                  exact ⟨by unfold F132; simp only [if_pos c1, if_neg (show ¬ (b = 6) from (of_decide_eq_true c2)), if_pos c3, if_neg (show ¬ (b = 7) from (of_decide_eq_false c4)), if_neg (show ¬ (b = 4) from (of_decide_eq_true c12)), if_pos c13, if_neg (show ¬ (b = 5) from (of_decide_eq_true c14)), if_pos (show (gI h 405 a.toNatClampNeg) = 0 from (Decidable.not_not.mp (of_decide_eq_false c16)))], rfl⟩
              · replace hP := hP.1 (Decidable.not_not.mp (of_decide_eq_false c14))
                refine e_ld (pc' := 104) i132_102 rfl rfl ?_
                refine e_cI (w := .int (b2i (x_isItem d))) (As := [.int d]) (rest := []) (pc' := 107) i132_104 rfl rfl rfl rfl rfl m126 ?_
                refine e_b0 (pc' := 110) i132_107 rfl (fun c17 => ?_) (fun c17 => ?_)
                · replace hP := hP.2 (show ¬ (x_isItem d) = true by rw [c17]; decide)
                  refine e_cn (pc' := 126) i132_125 rfl ?_
                  refine e_st (ls' := [some (.ref 397), some (.int a), some (.int b), some (.int c), some (.int d), some (.int e), some (.int 0)]) (pc' := 128) i132_126 rfl rfl rfl ?_
                  refine e_ld (pc' := 130) i132_128 rfl rfl ?_
                  refine e_ifT i132_130 (by decide) ?_
                  refine e_cn (pc' := 148) i132_146 rfl ?_
                  refine e_rt i132_148 rfl ?_
                  exact ⟨by unfold F132; simp only [if_pos c1, if_neg (show ¬ (b = 6) from (of_decide_eq_true c2)), if_pos c3, if_neg (show ¬ (b = 7) from (of_decide_eq_false c4)), if_neg (show ¬ (b = 4) from (of_decide_eq_true c12)), if_pos c13, if_pos (show b = 5 from (Decidable.not_not.mp (of_decide_eq_false c14))), if_neg (show ¬ (x_isItem d) = true by rw [c17]; decide)], rfl⟩
                · replace hP := hP.1 c17
                  refine e_ld (pc' := 112) i132_110 rfl rfl ?_
                  refine e_cn (pc' := 113) i132_112 rfl ?_
                  refine e_cn (pc' := 115) i132_113 rfl ?_
                  refine e_cI (w := .int (b2i (x_in3 e 1 60))) (As := [.int e, .int 1, .int 60]) (rest := []) (pc' := 118) i132_115 rfl rfl rfl rfl rfl m123 ?_
                  refine e_b0 (pc' := 121) i132_118 rfl (fun c18 => ?_) (fun c18 => ?_)
                  · replace hP := hP.2 (show ¬ (x_in3 e 1 60) = true by rw [c18]; decide)
                    refine e_cn (pc' := 126) i132_125 rfl ?_
                    refine e_st (ls' := [some (.ref 397), some (.int a), some (.int b), some (.int c), some (.int d), some (.int e), some (.int 0)]) (pc' := 128) i132_126 rfl rfl rfl ?_
                    refine e_ld (pc' := 130) i132_128 rfl rfl ?_
                    refine e_ifT i132_130 (by decide) ?_
                    refine e_cn (pc' := 148) i132_146 rfl ?_
                    refine e_rt i132_148 rfl ?_
                    exact ⟨by unfold F132; simp only [if_pos c1, if_neg (show ¬ (b = 6) from (of_decide_eq_true c2)), if_pos c3, if_neg (show ¬ (b = 7) from (of_decide_eq_false c4)), if_neg (show ¬ (b = 4) from (of_decide_eq_true c12)), if_pos c13, if_pos (show b = 5 from (Decidable.not_not.mp (of_decide_eq_false c14))), if_pos c17, if_neg (show ¬ (x_in3 e 1 60) = true by rw [c18]; decide)], rfl⟩
                  · replace hP := hP.1 c18
                    refine e_cn (pc' := 122) i132_121 rfl ?_
                    refine e_go i132_122 ?_
                    refine e_st (ls' := [some (.ref 397), some (.int a), some (.int b), some (.int c), some (.int d), some (.int e), some (.int 1)]) (pc' := 128) i132_126 rfl rfl rfl ?_
                    refine e_ld (pc' := 130) i132_128 rfl rfl ?_
                    refine e_ifF (pc' := 133) i132_130 rfl (by decide) ?_
                    refine e_ld (pc' := 134) i132_133 rfl rfl ?_
                    refine e_get (w := .ref 405) (pc' := 137) i132_134 rfl (x_isC (by decide) hn sh397) (x_fvR (by decide +kernel) (hL 397 8 405 lk397_8)) ?_
                    refine e_ld (pc' := 138) i132_137 rfl rfl ?_
                    obtain ⟨g19, hP⟩ := hP
                    refine e_al (n := a.toNatClampNeg) (w := .int (gI h 405 a.toNatClampNeg)) (pc' := 139) i132_138 rfl (x_alX (a := 20) (by decide) hn sh405 (by decide) g19) rfl rfl ?_
                    refine e_if (pc' := 142) i132_139 rfl (fun c20 => ?_) (fun c20 => ?_)
                    · replace hP := hP.2 (of_decide_eq_true c20)
                      refine e_cn (pc' := 148) i132_146 rfl ?_
                      refine e_rt i132_148 rfl ?_
                      exact ⟨by unfold F132; simp only [if_pos c1, if_neg (show ¬ (b = 6) from (of_decide_eq_true c2)), if_pos c3, if_neg (show ¬ (b = 7) from (of_decide_eq_false c4)), if_neg (show ¬ (b = 4) from (of_decide_eq_true c12)), if_pos c13, if_pos (show b = 5 from (Decidable.not_not.mp (of_decide_eq_false c14))), if_pos c17, if_pos c18, if_neg (show ¬ ((gI h 405 a.toNatClampNeg) = 0) from (of_decide_eq_true c20))], rfl⟩
                    · replace hP := hP.1 (Decidable.not_not.mp (of_decide_eq_false c20))
                      refine e_cn (pc' := 143) i132_142 rfl ?_
                      refine e_go i132_143 ?_
                      refine e_rt i132_148 rfl ?_
                      exact ⟨by unfold F132; simp only [if_pos c1, if_neg (show ¬ (b = 6) from (of_decide_eq_true c2)), if_pos c3, if_neg (show ¬ (b = 7) from (of_decide_eq_false c4)), if_neg (show ¬ (b = 4) from (of_decide_eq_true c12)), if_pos c13, if_pos (show b = 5 from (Decidable.not_not.mp (of_decide_eq_false c14))), if_pos c17, if_pos c18, if_pos (show (gI h 405 a.toNatClampNeg) = 0 from (Decidable.not_not.mp (of_decide_eq_false c20)))], rfl⟩
          · replace hP := hP.1 (Decidable.not_not.mp (of_decide_eq_false c12))
            refine e_ld (pc' := 52) i132_51 rfl rfl ?_
            refine e_cn (pc' := 53) i132_52 rfl ?_
            refine e_cn (pc' := 55) i132_53 rfl ?_
            refine e_cI (w := .int (b2i (x_in3 c 1 15))) (As := [.int c, .int 1, .int 15]) (rest := []) (pc' := 58) i132_55 rfl rfl rfl rfl rfl m123 ?_
            refine e_b0 (pc' := 61) i132_58 rfl (fun c21 => ?_) (fun c21 => ?_)
            · replace hP := hP.2 (show ¬ (x_in3 c 1 15) = true by rw [c21]; decide)
              refine e_cn (pc' := 90) i132_89 rfl ?_
              refine e_st (ls' := [some (.ref 397), some (.int a), some (.int b), some (.int c), some (.int d), some (.int e), some (.int 0)]) (pc' := 92) i132_90 rfl rfl rfl ?_
              refine e_ld (pc' := 94) i132_92 rfl rfl ?_
              refine e_ifT i132_94 (by decide) ?_
              refine e_cn (pc' := 126) i132_125 rfl ?_
              refine e_st (ls' := [some (.ref 397), some (.int a), some (.int b), some (.int c), some (.int d), some (.int e), some (.int 0)]) (pc' := 128) i132_126 rfl rfl rfl ?_
              refine e_ld (pc' := 130) i132_128 rfl rfl ?_
              refine e_ifT i132_130 (by decide) ?_
              refine e_cn (pc' := 148) i132_146 rfl ?_
              refine e_rt i132_148 rfl ?_
              exact ⟨by unfold F132; simp only [if_pos c1, if_neg (show ¬ (b = 6) from (of_decide_eq_true c2)), if_pos c3, if_neg (show ¬ (b = 7) from (of_decide_eq_false c4)), if_pos (show b = 4 from (Decidable.not_not.mp (of_decide_eq_false c12))), if_neg (show ¬ (x_in3 c 1 15) = true by rw [c21]; decide)], rfl⟩
            · replace hP := hP.1 c21
              refine e_ld (pc' := 62) i132_61 rfl rfl ?_
              refine e_cI (w := .int (F131 c h)) (As := [.int c]) (rest := []) (pc' := 65) i132_62 rfl rfl rfl rfl rfl m131 ?_
              refine e_cn (pc' := 66) i132_65 rfl ?_
              refine e_cn (pc' := 67) i132_66 rfl ?_
              refine e_cI (w := .int (b2i (x_in3 (F131 c h) 2 3))) (As := [.int (F131 c h), .int 2, .int 3]) (rest := []) (pc' := 70) i132_67 rfl rfl rfl rfl rfl m123 ?_
              refine e_b0 (pc' := 73) i132_70 rfl (fun c22 => ?_) (fun c22 => ?_)
              · replace hP := hP.2 (show ¬ (x_in3 (F131 c h) 2 3) = true by rw [c22]; decide)
                refine e_cn (pc' := 90) i132_89 rfl ?_
                refine e_st (ls' := [some (.ref 397), some (.int a), some (.int b), some (.int c), some (.int d), some (.int e), some (.int 0)]) (pc' := 92) i132_90 rfl rfl rfl ?_
                refine e_ld (pc' := 94) i132_92 rfl rfl ?_
                refine e_ifT i132_94 (by decide) ?_
                refine e_cn (pc' := 126) i132_125 rfl ?_
                refine e_st (ls' := [some (.ref 397), some (.int a), some (.int b), some (.int c), some (.int d), some (.int e), some (.int 0)]) (pc' := 128) i132_126 rfl rfl rfl ?_
                refine e_ld (pc' := 130) i132_128 rfl rfl ?_
                refine e_ifT i132_130 (by decide) ?_
                refine e_cn (pc' := 148) i132_146 rfl ?_
                refine e_rt i132_148 rfl ?_
                exact ⟨by unfold F132; simp only [if_pos c1, if_neg (show ¬ (b = 6) from (of_decide_eq_true c2)), if_pos c3, if_neg (show ¬ (b = 7) from (of_decide_eq_false c4)), if_pos (show b = 4 from (Decidable.not_not.mp (of_decide_eq_false c12))), if_pos c21, if_neg (show ¬ (x_in3 (F131 c h) 2 3) = true by rw [c22]; decide)], rfl⟩
              · replace hP := hP.1 c22
                refine e_go i132_73 ?_
                refine e_cn (pc' := 86) i132_85 rfl ?_
                refine e_go i132_86 ?_
                refine e_st (ls' := [some (.ref 397), some (.int a), some (.int b), some (.int c), some (.int d), some (.int e), some (.int 1)]) (pc' := 92) i132_90 rfl rfl rfl ?_
                refine e_ld (pc' := 94) i132_92 rfl rfl ?_
                refine e_ifF (pc' := 97) i132_94 rfl (by decide) ?_
                refine e_ld (pc' := 98) i132_97 rfl rfl ?_
                refine e_cn (pc' := 99) i132_98 rfl ?_
                refine e_ic (pc' := 102) i132_99 rfl (fun c23 => ?_) (fun c23 => ?_)
                · replace hP := hP.2 (of_decide_eq_true c23)
                  refine e_cn (pc' := 122) i132_121 rfl ?_
                  refine e_go i132_122 ?_
                  refine e_st (ls' := [some (.ref 397), some (.int a), some (.int b), some (.int c), some (.int d), some (.int e), some (.int 1)]) (pc' := 128) i132_126 rfl rfl rfl ?_
                  refine e_ld (pc' := 130) i132_128 rfl rfl ?_
                  refine e_ifF (pc' := 133) i132_130 rfl (by decide) ?_
                  refine e_ld (pc' := 134) i132_133 rfl rfl ?_
                  refine e_get (w := .ref 405) (pc' := 137) i132_134 rfl (x_isC (by decide) hn sh397) (x_fvR (by decide +kernel) (hL 397 8 405 lk397_8)) ?_
                  refine e_ld (pc' := 138) i132_137 rfl rfl ?_
                  obtain ⟨g24, hP⟩ := hP
                  refine e_al (n := a.toNatClampNeg) (w := .int (gI h 405 a.toNatClampNeg)) (pc' := 139) i132_138 rfl (x_alX (a := 20) (by decide) hn sh405 (by decide) g24) rfl rfl ?_
                  refine e_if (pc' := 142) i132_139 rfl (fun c25 => ?_) (fun c25 => ?_)
                  · replace hP := hP.2 (of_decide_eq_true c25)
                    refine e_cn (pc' := 148) i132_146 rfl ?_
                    refine e_rt i132_148 rfl ?_
                    exact ⟨by unfold F132; simp only [if_pos c1, if_neg (show ¬ (b = 6) from (of_decide_eq_true c2)), if_pos c3, if_neg (show ¬ (b = 7) from (of_decide_eq_false c4)), if_pos (show b = 4 from (Decidable.not_not.mp (of_decide_eq_false c12))), if_pos c21, if_pos c22, if_neg (show ¬ (b = 5) from (of_decide_eq_true c23)), if_neg (show ¬ ((gI h 405 a.toNatClampNeg) = 0) from (of_decide_eq_true c25))], rfl⟩
                  · replace hP := hP.1 (Decidable.not_not.mp (of_decide_eq_false c25))
                    refine e_cn (pc' := 143) i132_142 rfl ?_
                    refine e_go i132_143 ?_
                    refine e_rt i132_148 rfl ?_
                    exact ⟨by unfold F132; simp only [if_pos c1, if_neg (show ¬ (b = 6) from (of_decide_eq_true c2)), if_pos c3, if_neg (show ¬ (b = 7) from (of_decide_eq_false c4)), if_pos (show b = 4 from (Decidable.not_not.mp (of_decide_eq_false c12))), if_pos c21, if_pos c22, if_neg (show ¬ (b = 5) from (of_decide_eq_true c23)), if_pos (show (gI h 405 a.toNatClampNeg) = 0 from (Decidable.not_not.mp (of_decide_eq_false c25)))], rfl⟩
                · replace hP := hP.1 (Decidable.not_not.mp (of_decide_eq_false c23))
                  refine e_ld (pc' := 104) i132_102 rfl rfl ?_
                  refine e_cI (w := .int (b2i (x_isItem d))) (As := [.int d]) (rest := []) (pc' := 107) i132_104 rfl rfl rfl rfl rfl m126 ?_
                  refine e_b0 (pc' := 110) i132_107 rfl (fun c26 => ?_) (fun c26 => ?_)
                  · replace hP := hP.2 (show ¬ (x_isItem d) = true by rw [c26]; decide)
                    refine e_cn (pc' := 126) i132_125 rfl ?_
                    refine e_st (ls' := [some (.ref 397), some (.int a), some (.int b), some (.int c), some (.int d), some (.int e), some (.int 0)]) (pc' := 128) i132_126 rfl rfl rfl ?_
                    refine e_ld (pc' := 130) i132_128 rfl rfl ?_
                    refine e_ifT i132_130 (by decide) ?_
                    refine e_cn (pc' := 148) i132_146 rfl ?_
                    refine e_rt i132_148 rfl ?_
                    exact ⟨by unfold F132; simp only [if_pos c1, if_neg (show ¬ (b = 6) from (of_decide_eq_true c2)), if_pos c3, if_neg (show ¬ (b = 7) from (of_decide_eq_false c4)), if_pos (show b = 4 from (Decidable.not_not.mp (of_decide_eq_false c12))), if_pos c21, if_pos c22, if_pos (show b = 5 from (Decidable.not_not.mp (of_decide_eq_false c23))), if_neg (show ¬ (x_isItem d) = true by rw [c26]; decide)], rfl⟩
                  · replace hP := hP.1 c26
                    refine e_ld (pc' := 112) i132_110 rfl rfl ?_
                    refine e_cn (pc' := 113) i132_112 rfl ?_
                    refine e_cn (pc' := 115) i132_113 rfl ?_
                    refine e_cI (w := .int (b2i (x_in3 e 1 60))) (As := [.int e, .int 1, .int 60]) (rest := []) (pc' := 118) i132_115 rfl rfl rfl rfl rfl m123 ?_
                    refine e_b0 (pc' := 121) i132_118 rfl (fun c27 => ?_) (fun c27 => ?_)
                    · replace hP := hP.2 (show ¬ (x_in3 e 1 60) = true by rw [c27]; decide)
                      refine e_cn (pc' := 126) i132_125 rfl ?_
                      refine e_st (ls' := [some (.ref 397), some (.int a), some (.int b), some (.int c), some (.int d), some (.int e), some (.int 0)]) (pc' := 128) i132_126 rfl rfl rfl ?_
                      refine e_ld (pc' := 130) i132_128 rfl rfl ?_
                      refine e_ifT i132_130 (by decide) ?_
                      refine e_cn (pc' := 148) i132_146 rfl ?_
                      refine e_rt i132_148 rfl ?_
                      exact ⟨by unfold F132; simp only [if_pos c1, if_neg (show ¬ (b = 6) from (of_decide_eq_true c2)), if_pos c3, if_neg (show ¬ (b = 7) from (of_decide_eq_false c4)), if_pos (show b = 4 from (Decidable.not_not.mp (of_decide_eq_false c12))), if_pos c21, if_pos c22, if_pos (show b = 5 from (Decidable.not_not.mp (of_decide_eq_false c23))), if_pos c26, if_neg (show ¬ (x_in3 e 1 60) = true by rw [c27]; decide)], rfl⟩
                    · replace hP := hP.1 c27
                      refine e_cn (pc' := 122) i132_121 rfl ?_
                      refine e_go i132_122 ?_
                      refine e_st (ls' := [some (.ref 397), some (.int a), some (.int b), some (.int c), some (.int d), some (.int e), some (.int 1)]) (pc' := 128) i132_126 rfl rfl rfl ?_
                      refine e_ld (pc' := 130) i132_128 rfl rfl ?_
                      refine e_ifF (pc' := 133) i132_130 rfl (by decide) ?_
                      refine e_ld (pc' := 134) i132_133 rfl rfl ?_
                      refine e_get (w := .ref 405) (pc' := 137) i132_134 rfl (x_isC (by decide) hn sh397) (x_fvR (by decide +kernel) (hL 397 8 405 lk397_8)) ?_
                      refine e_ld (pc' := 138) i132_137 rfl rfl ?_
                      obtain ⟨g28, hP⟩ := hP
                      refine e_al (n := a.toNatClampNeg) (w := .int (gI h 405 a.toNatClampNeg)) (pc' := 139) i132_138 rfl (x_alX (a := 20) (by decide) hn sh405 (by decide) g28) rfl rfl ?_
                      refine e_if (pc' := 142) i132_139 rfl (fun c29 => ?_) (fun c29 => ?_)
                      · replace hP := hP.2 (of_decide_eq_true c29)
                        refine e_cn (pc' := 148) i132_146 rfl ?_
                        refine e_rt i132_148 rfl ?_
                        exact ⟨by unfold F132; simp only [if_pos c1, if_neg (show ¬ (b = 6) from (of_decide_eq_true c2)), if_pos c3, if_neg (show ¬ (b = 7) from (of_decide_eq_false c4)), if_pos (show b = 4 from (Decidable.not_not.mp (of_decide_eq_false c12))), if_pos c21, if_pos c22, if_pos (show b = 5 from (Decidable.not_not.mp (of_decide_eq_false c23))), if_pos c26, if_pos c27, if_neg (show ¬ ((gI h 405 a.toNatClampNeg) = 0) from (of_decide_eq_true c29))], rfl⟩
                      · replace hP := hP.1 (Decidable.not_not.mp (of_decide_eq_false c29))
                        refine e_cn (pc' := 143) i132_142 rfl ?_
                        refine e_go i132_143 ?_
                        refine e_rt i132_148 rfl ?_
                        exact ⟨by unfold F132; simp only [if_pos c1, if_neg (show ¬ (b = 6) from (of_decide_eq_true c2)), if_pos c3, if_neg (show ¬ (b = 7) from (of_decide_eq_false c4)), if_pos (show b = 4 from (Decidable.not_not.mp (of_decide_eq_false c12))), if_pos c21, if_pos c22, if_pos (show b = 5 from (Decidable.not_not.mp (of_decide_eq_false c23))), if_pos c26, if_pos c27, if_pos (show (gI h 405 a.toNatClampNeg) = 0 from (Decidable.not_not.mp (of_decide_eq_false c29)))], rfl⟩
    · replace hP := hP.1 (Decidable.not_not.mp (of_decide_eq_false c2))
      refine e_ld (pc' := 15) i132_13 rfl rfl ?_
      refine e_cn (pc' := 16) i132_15 rfl ?_
      refine e_ld (pc' := 17) i132_16 rfl rfl ?_
      refine e_get (w := .int (gI h 397 1)) (pc' := 20) i132_17 rfl (x_isC (by decide) hn sh397) rfl ?_
      refine e_cn (pc' := 21) i132_20 rfl ?_
      refine e_ib (z := (gI h 397 1) - 1) (pc' := 22) i132_21 rfl rfl ?_
      refine e_cI (w := .int (b2i (x_in3 d 0 ((gI h 397 1) - 1)))) (As := [.int d, .int 0, .int ((gI h 397 1) - 1)]) (rest := []) (pc' := 25) i132_22 rfl rfl rfl rfl rfl m123 ?_
      refine e_b1 (pc' := 28) i132_25 rfl (fun c30 => ?_) (fun c30 => ?_)
      · replace hP := hP.1 c30
        refine e_ld (pc' := 31) i132_30 rfl rfl ?_
        refine e_cn (pc' := 32) i132_31 rfl ?_
        refine e_cn (pc' := 34) i132_32 rfl ?_
        refine e_cI (w := .int (b2i (x_in3 b 1 7))) (As := [.int b, .int 1, .int 7]) (rest := []) (pc' := 37) i132_34 rfl rfl rfl rfl rfl m123 ?_
        refine e_b0 (pc' := 40) i132_37 rfl (fun c31 => ?_) (fun c31 => ?_)
        · replace hP := hP.2 (show ¬ (x_in3 b 1 7) = true by rw [c31]; decide)
          refine e_cn (pc' := 90) i132_89 rfl ?_
          refine e_st (ls' := [some (.ref 397), some (.int a), some (.int b), some (.int c), some (.int d), some (.int e), some (.int 0)]) (pc' := 92) i132_90 rfl rfl rfl ?_
          refine e_ld (pc' := 94) i132_92 rfl rfl ?_
          refine e_ifT i132_94 (by decide) ?_
          refine e_cn (pc' := 126) i132_125 rfl ?_
          refine e_st (ls' := [some (.ref 397), some (.int a), some (.int b), some (.int c), some (.int d), some (.int e), some (.int 0)]) (pc' := 128) i132_126 rfl rfl rfl ?_
          refine e_ld (pc' := 130) i132_128 rfl rfl ?_
          refine e_ifT i132_130 (by decide) ?_
          refine e_cn (pc' := 148) i132_146 rfl ?_
          refine e_rt i132_148 rfl ?_
          exact ⟨by unfold F132; simp only [if_pos c1, if_pos (show b = 6 from (Decidable.not_not.mp (of_decide_eq_false c2))), if_pos c30, if_neg (show ¬ (x_in3 b 1 7) = true by rw [c31]; decide)], rfl⟩
        · replace hP := hP.1 c31
          refine e_ld (pc' := 41) i132_40 rfl rfl ?_
          refine e_cn (pc' := 43) i132_41 rfl ?_
          refine e_ic (pc' := 46) i132_43 rfl (fun c32 => ?_) (fun c32 => ?_)
          · replace hP := hP.1 (of_decide_eq_true c32)
            refine e_cn (pc' := 86) i132_85 rfl ?_
            refine e_go i132_86 ?_
            refine e_st (ls' := [some (.ref 397), some (.int a), some (.int b), some (.int c), some (.int d), some (.int e), some (.int 1)]) (pc' := 92) i132_90 rfl rfl rfl ?_
            refine e_ld (pc' := 94) i132_92 rfl rfl ?_
            refine e_ifF (pc' := 97) i132_94 rfl (by decide) ?_
            refine e_ld (pc' := 98) i132_97 rfl rfl ?_
            refine e_cn (pc' := 99) i132_98 rfl ?_
            refine e_ic (pc' := 102) i132_99 rfl (fun c33 => ?_) (fun c33 => ?_)
            · replace hP := hP.2 (of_decide_eq_true c33)
              refine e_cn (pc' := 122) i132_121 rfl ?_
              refine e_go i132_122 ?_
              refine e_st (ls' := [some (.ref 397), some (.int a), some (.int b), some (.int c), some (.int d), some (.int e), some (.int 1)]) (pc' := 128) i132_126 rfl rfl rfl ?_
              refine e_ld (pc' := 130) i132_128 rfl rfl ?_
              refine e_ifF (pc' := 133) i132_130 rfl (by decide) ?_
              refine e_ld (pc' := 134) i132_133 rfl rfl ?_
              refine e_get (w := .ref 405) (pc' := 137) i132_134 rfl (x_isC (by decide) hn sh397) (x_fvR (by decide +kernel) (hL 397 8 405 lk397_8)) ?_
              refine e_ld (pc' := 138) i132_137 rfl rfl ?_
              obtain ⟨g34, hP⟩ := hP
              refine e_al (n := a.toNatClampNeg) (w := .int (gI h 405 a.toNatClampNeg)) (pc' := 139) i132_138 rfl (x_alX (a := 20) (by decide) hn sh405 (by decide) g34) rfl rfl ?_
              refine e_if (pc' := 142) i132_139 rfl (fun c35 => ?_) (fun c35 => ?_)
              · replace hP := hP.2 (of_decide_eq_true c35)
                refine e_cn (pc' := 148) i132_146 rfl ?_
                refine e_rt i132_148 rfl ?_
                exact ⟨by unfold F132; simp only [if_pos c1, if_pos (show b = 6 from (Decidable.not_not.mp (of_decide_eq_false c2))), if_pos c30, if_pos c31, if_pos (show b = 7 from (of_decide_eq_true c32)), if_neg (show ¬ (b = 5) from (of_decide_eq_true c33)), if_neg (show ¬ ((gI h 405 a.toNatClampNeg) = 0) from (of_decide_eq_true c35))], rfl⟩
              · replace hP := hP.1 (Decidable.not_not.mp (of_decide_eq_false c35))
                refine e_cn (pc' := 143) i132_142 rfl ?_
                refine e_go i132_143 ?_
                refine e_rt i132_148 rfl ?_
                exact ⟨by unfold F132; simp only [if_pos c1, if_pos (show b = 6 from (Decidable.not_not.mp (of_decide_eq_false c2))), if_pos c30, if_pos c31, if_pos (show b = 7 from (of_decide_eq_true c32)), if_neg (show ¬ (b = 5) from (of_decide_eq_true c33)), if_pos (show (gI h 405 a.toNatClampNeg) = 0 from (Decidable.not_not.mp (of_decide_eq_false c35)))], rfl⟩
            · replace hP := hP.1 (Decidable.not_not.mp (of_decide_eq_false c33))
              refine e_ld (pc' := 104) i132_102 rfl rfl ?_
              refine e_cI (w := .int (b2i (x_isItem d))) (As := [.int d]) (rest := []) (pc' := 107) i132_104 rfl rfl rfl rfl rfl m126 ?_
              refine e_b0 (pc' := 110) i132_107 rfl (fun c36 => ?_) (fun c36 => ?_)
              · replace hP := hP.2 (show ¬ (x_isItem d) = true by rw [c36]; decide)
                refine e_cn (pc' := 126) i132_125 rfl ?_
                refine e_st (ls' := [some (.ref 397), some (.int a), some (.int b), some (.int c), some (.int d), some (.int e), some (.int 0)]) (pc' := 128) i132_126 rfl rfl rfl ?_
                refine e_ld (pc' := 130) i132_128 rfl rfl ?_
                refine e_ifT i132_130 (by decide) ?_
                refine e_cn (pc' := 148) i132_146 rfl ?_
                refine e_rt i132_148 rfl ?_
                exact ⟨by unfold F132; simp only [if_pos c1, if_pos (show b = 6 from (Decidable.not_not.mp (of_decide_eq_false c2))), if_pos c30, if_pos c31, if_pos (show b = 7 from (of_decide_eq_true c32)), if_pos (show b = 5 from (Decidable.not_not.mp (of_decide_eq_false c33))), if_neg (show ¬ (x_isItem d) = true by rw [c36]; decide)], rfl⟩
              · replace hP := hP.1 c36
                refine e_ld (pc' := 112) i132_110 rfl rfl ?_
                refine e_cn (pc' := 113) i132_112 rfl ?_
                refine e_cn (pc' := 115) i132_113 rfl ?_
                refine e_cI (w := .int (b2i (x_in3 e 1 60))) (As := [.int e, .int 1, .int 60]) (rest := []) (pc' := 118) i132_115 rfl rfl rfl rfl rfl m123 ?_
                refine e_b0 (pc' := 121) i132_118 rfl (fun c37 => ?_) (fun c37 => ?_)
                · replace hP := hP.2 (show ¬ (x_in3 e 1 60) = true by rw [c37]; decide)
                  refine e_cn (pc' := 126) i132_125 rfl ?_
                  refine e_st (ls' := [some (.ref 397), some (.int a), some (.int b), some (.int c), some (.int d), some (.int e), some (.int 0)]) (pc' := 128) i132_126 rfl rfl rfl ?_
                  refine e_ld (pc' := 130) i132_128 rfl rfl ?_
                  refine e_ifT i132_130 (by decide) ?_
                  refine e_cn (pc' := 148) i132_146 rfl ?_
                  refine e_rt i132_148 rfl ?_
                  exact ⟨by unfold F132; simp only [if_pos c1, if_pos (show b = 6 from (Decidable.not_not.mp (of_decide_eq_false c2))), if_pos c30, if_pos c31, if_pos (show b = 7 from (of_decide_eq_true c32)), if_pos (show b = 5 from (Decidable.not_not.mp (of_decide_eq_false c33))), if_pos c36, if_neg (show ¬ (x_in3 e 1 60) = true by rw [c37]; decide)], rfl⟩
                · replace hP := hP.1 c37
                  refine e_cn (pc' := 122) i132_121 rfl ?_
                  refine e_go i132_122 ?_
                  refine e_st (ls' := [some (.ref 397), some (.int a), some (.int b), some (.int c), some (.int d), some (.int e), some (.int 1)]) (pc' := 128) i132_126 rfl rfl rfl ?_
                  refine e_ld (pc' := 130) i132_128 rfl rfl ?_
                  refine e_ifF (pc' := 133) i132_130 rfl (by decide) ?_
                  refine e_ld (pc' := 134) i132_133 rfl rfl ?_
                  refine e_get (w := .ref 405) (pc' := 137) i132_134 rfl (x_isC (by decide) hn sh397) (x_fvR (by decide +kernel) (hL 397 8 405 lk397_8)) ?_
                  refine e_ld (pc' := 138) i132_137 rfl rfl ?_
                  obtain ⟨g38, hP⟩ := hP
                  refine e_al (n := a.toNatClampNeg) (w := .int (gI h 405 a.toNatClampNeg)) (pc' := 139) i132_138 rfl (x_alX (a := 20) (by decide) hn sh405 (by decide) g38) rfl rfl ?_
                  refine e_if (pc' := 142) i132_139 rfl (fun c39 => ?_) (fun c39 => ?_)
                  · replace hP := hP.2 (of_decide_eq_true c39)
                    refine e_cn (pc' := 148) i132_146 rfl ?_
                    refine e_rt i132_148 rfl ?_
                    exact ⟨by unfold F132; simp only [if_pos c1, if_pos (show b = 6 from (Decidable.not_not.mp (of_decide_eq_false c2))), if_pos c30, if_pos c31, if_pos (show b = 7 from (of_decide_eq_true c32)), if_pos (show b = 5 from (Decidable.not_not.mp (of_decide_eq_false c33))), if_pos c36, if_pos c37, if_neg (show ¬ ((gI h 405 a.toNatClampNeg) = 0) from (of_decide_eq_true c39))], rfl⟩
                  · replace hP := hP.1 (Decidable.not_not.mp (of_decide_eq_false c39))
                    refine e_cn (pc' := 143) i132_142 rfl ?_
                    refine e_go i132_143 ?_
                    refine e_rt i132_148 rfl ?_
                    exact ⟨by unfold F132; simp only [if_pos c1, if_pos (show b = 6 from (Decidable.not_not.mp (of_decide_eq_false c2))), if_pos c30, if_pos c31, if_pos (show b = 7 from (of_decide_eq_true c32)), if_pos (show b = 5 from (Decidable.not_not.mp (of_decide_eq_false c33))), if_pos c36, if_pos c37, if_pos (show (gI h 405 a.toNatClampNeg) = 0 from (Decidable.not_not.mp (of_decide_eq_false c39)))], rfl⟩
          · replace hP := hP.2 (of_decide_eq_false c32)
            refine e_ld (pc' := 47) i132_46 rfl rfl ?_
            refine e_cn (pc' := 48) i132_47 rfl ?_
            refine e_ic (pc' := 51) i132_48 rfl (fun c40 => ?_) (fun c40 => ?_)
            · replace hP := hP.2 (of_decide_eq_true c40)
              refine e_ld (pc' := 77) i132_76 rfl rfl ?_
              refine e_cn (pc' := 78) i132_77 rfl ?_
              refine e_cn (pc' := 79) i132_78 rfl ?_
              refine e_cI (w := .int (b2i (x_in3 c 0 3))) (As := [.int c, .int 0, .int 3]) (rest := []) (pc' := 82) i132_79 rfl rfl rfl rfl rfl m123 ?_
              refine e_b0 (pc' := 85) i132_82 rfl (fun c41 => ?_) (fun c41 => ?_)
              · replace hP := hP.2 (show ¬ (x_in3 c 0 3) = true by rw [c41]; decide)
                refine e_cn (pc' := 90) i132_89 rfl ?_
                refine e_st (ls' := [some (.ref 397), some (.int a), some (.int b), some (.int c), some (.int d), some (.int e), some (.int 0)]) (pc' := 92) i132_90 rfl rfl rfl ?_
                refine e_ld (pc' := 94) i132_92 rfl rfl ?_
                refine e_ifT i132_94 (by decide) ?_
                refine e_cn (pc' := 126) i132_125 rfl ?_
                refine e_st (ls' := [some (.ref 397), some (.int a), some (.int b), some (.int c), some (.int d), some (.int e), some (.int 0)]) (pc' := 128) i132_126 rfl rfl rfl ?_
                refine e_ld (pc' := 130) i132_128 rfl rfl ?_
                refine e_ifT i132_130 (by decide) ?_
                refine e_cn (pc' := 148) i132_146 rfl ?_
                refine e_rt i132_148 rfl ?_
                exact ⟨by unfold F132; simp only [if_pos c1, if_pos (show b = 6 from (Decidable.not_not.mp (of_decide_eq_false c2))), if_pos c30, if_pos c31, if_neg (show ¬ (b = 7) from (of_decide_eq_false c32)), if_neg (show ¬ (b = 4) from (of_decide_eq_true c40)), if_neg (show ¬ (x_in3 c 0 3) = true by rw [c41]; decide)], rfl⟩
              · replace hP := hP.1 c41
                refine e_cn (pc' := 86) i132_85 rfl ?_
                refine e_go i132_86 ?_
                refine e_st (ls' := [some (.ref 397), some (.int a), some (.int b), some (.int c), some (.int d), some (.int e), some (.int 1)]) (pc' := 92) i132_90 rfl rfl rfl ?_
                refine e_ld (pc' := 94) i132_92 rfl rfl ?_
                refine e_ifF (pc' := 97) i132_94 rfl (by decide) ?_
                refine e_ld (pc' := 98) i132_97 rfl rfl ?_
                refine e_cn (pc' := 99) i132_98 rfl ?_
                refine e_ic (pc' := 102) i132_99 rfl (fun c42 => ?_) (fun c42 => ?_)
                · replace hP := hP.2 (of_decide_eq_true c42)
                  refine e_cn (pc' := 122) i132_121 rfl ?_
                  refine e_go i132_122 ?_
                  refine e_st (ls' := [some (.ref 397), some (.int a), some (.int b), some (.int c), some (.int d), some (.int e), some (.int 1)]) (pc' := 128) i132_126 rfl rfl rfl ?_
                  refine e_ld (pc' := 130) i132_128 rfl rfl ?_
                  refine e_ifF (pc' := 133) i132_130 rfl (by decide) ?_
                  refine e_ld (pc' := 134) i132_133 rfl rfl ?_
                  refine e_get (w := .ref 405) (pc' := 137) i132_134 rfl (x_isC (by decide) hn sh397) (x_fvR (by decide +kernel) (hL 397 8 405 lk397_8)) ?_
                  refine e_ld (pc' := 138) i132_137 rfl rfl ?_
                  obtain ⟨g43, hP⟩ := hP
                  refine e_al (n := a.toNatClampNeg) (w := .int (gI h 405 a.toNatClampNeg)) (pc' := 139) i132_138 rfl (x_alX (a := 20) (by decide) hn sh405 (by decide) g43) rfl rfl ?_
                  refine e_if (pc' := 142) i132_139 rfl (fun c44 => ?_) (fun c44 => ?_)
                  · replace hP := hP.2 (of_decide_eq_true c44)
                    refine e_cn (pc' := 148) i132_146 rfl ?_
                    refine e_rt i132_148 rfl ?_
                    exact ⟨by unfold F132; simp only [if_pos c1, if_pos (show b = 6 from (Decidable.not_not.mp (of_decide_eq_false c2))), if_pos c30, if_pos c31, if_neg (show ¬ (b = 7) from (of_decide_eq_false c32)), if_neg (show ¬ (b = 4) from (of_decide_eq_true c40)), if_pos c41, if_neg (show ¬ (b = 5) from (of_decide_eq_true c42)), if_neg (show ¬ ((gI h 405 a.toNatClampNeg) = 0) from (of_decide_eq_true c44))], rfl⟩
                  · replace hP := hP.1 (Decidable.not_not.mp (of_decide_eq_false c44))
                    refine e_cn (pc' := 143) i132_142 rfl ?_
                    refine e_go i132_143 ?_
                    refine e_rt i132_148 rfl ?_
                    exact ⟨by unfold F132; simp only [if_pos c1, if_pos (show b = 6 from (Decidable.not_not.mp (of_decide_eq_false c2))), if_pos c30, if_pos c31, if_neg (show ¬ (b = 7) from (of_decide_eq_false c32)), if_neg (show ¬ (b = 4) from (of_decide_eq_true c40)), if_pos c41, if_neg (show ¬ (b = 5) from (of_decide_eq_true c42)), if_pos (show (gI h 405 a.toNatClampNeg) = 0 from (Decidable.not_not.mp (of_decide_eq_false c44)))], rfl⟩
                · replace hP := hP.1 (Decidable.not_not.mp (of_decide_eq_false c42))
                  refine e_ld (pc' := 104) i132_102 rfl rfl ?_
                  refine e_cI (w := .int (b2i (x_isItem d))) (As := [.int d]) (rest := []) (pc' := 107) i132_104 rfl rfl rfl rfl rfl m126 ?_
                  refine e_b0 (pc' := 110) i132_107 rfl (fun c45 => ?_) (fun c45 => ?_)
                  · replace hP := hP.2 (show ¬ (x_isItem d) = true by rw [c45]; decide)
                    refine e_cn (pc' := 126) i132_125 rfl ?_
                    refine e_st (ls' := [some (.ref 397), some (.int a), some (.int b), some (.int c), some (.int d), some (.int e), some (.int 0)]) (pc' := 128) i132_126 rfl rfl rfl ?_
                    refine e_ld (pc' := 130) i132_128 rfl rfl ?_
                    refine e_ifT i132_130 (by decide) ?_
                    refine e_cn (pc' := 148) i132_146 rfl ?_
                    refine e_rt i132_148 rfl ?_
                    exact ⟨by unfold F132; simp only [if_pos c1, if_pos (show b = 6 from (Decidable.not_not.mp (of_decide_eq_false c2))), if_pos c30, if_pos c31, if_neg (show ¬ (b = 7) from (of_decide_eq_false c32)), if_neg (show ¬ (b = 4) from (of_decide_eq_true c40)), if_pos c41, if_pos (show b = 5 from (Decidable.not_not.mp (of_decide_eq_false c42))), if_neg (show ¬ (x_isItem d) = true by rw [c45]; decide)], rfl⟩
                  · replace hP := hP.1 c45
                    refine e_ld (pc' := 112) i132_110 rfl rfl ?_
                    refine e_cn (pc' := 113) i132_112 rfl ?_
                    refine e_cn (pc' := 115) i132_113 rfl ?_
                    refine e_cI (w := .int (b2i (x_in3 e 1 60))) (As := [.int e, .int 1, .int 60]) (rest := []) (pc' := 118) i132_115 rfl rfl rfl rfl rfl m123 ?_
                    refine e_b0 (pc' := 121) i132_118 rfl (fun c46 => ?_) (fun c46 => ?_)
                    · replace hP := hP.2 (show ¬ (x_in3 e 1 60) = true by rw [c46]; decide)
                      refine e_cn (pc' := 126) i132_125 rfl ?_
                      refine e_st (ls' := [some (.ref 397), some (.int a), some (.int b), some (.int c), some (.int d), some (.int e), some (.int 0)]) (pc' := 128) i132_126 rfl rfl rfl ?_
                      refine e_ld (pc' := 130) i132_128 rfl rfl ?_
                      refine e_ifT i132_130 (by decide) ?_
                      refine e_cn (pc' := 148) i132_146 rfl ?_
                      refine e_rt i132_148 rfl ?_
                      exact ⟨by unfold F132; simp only [if_pos c1, if_pos (show b = 6 from (Decidable.not_not.mp (of_decide_eq_false c2))), if_pos c30, if_pos c31, if_neg (show ¬ (b = 7) from (of_decide_eq_false c32)), if_neg (show ¬ (b = 4) from (of_decide_eq_true c40)), if_pos c41, if_pos (show b = 5 from (Decidable.not_not.mp (of_decide_eq_false c42))), if_pos c45, if_neg (show ¬ (x_in3 e 1 60) = true by rw [c46]; decide)], rfl⟩
                    · replace hP := hP.1 c46
                      refine e_cn (pc' := 122) i132_121 rfl ?_
                      refine e_go i132_122 ?_
                      refine e_st (ls' := [some (.ref 397), some (.int a), some (.int b), some (.int c), some (.int d), some (.int e), some (.int 1)]) (pc' := 128) i132_126 rfl rfl rfl ?_
                      refine e_ld (pc' := 130) i132_128 rfl rfl ?_
                      refine e_ifF (pc' := 133) i132_130 rfl (by decide) ?_
                      refine e_ld (pc' := 134) i132_133 rfl rfl ?_
                      refine e_get (w := .ref 405) (pc' := 137) i132_134 rfl (x_isC (by decide) hn sh397) (x_fvR (by decide +kernel) (hL 397 8 405 lk397_8)) ?_
                      refine e_ld (pc' := 138) i132_137 rfl rfl ?_
                      obtain ⟨g47, hP⟩ := hP
                      refine e_al (n := a.toNatClampNeg) (w := .int (gI h 405 a.toNatClampNeg)) (pc' := 139) i132_138 rfl (x_alX (a := 20) (by decide) hn sh405 (by decide) g47) rfl rfl ?_
                      refine e_if (pc' := 142) i132_139 rfl (fun c48 => ?_) (fun c48 => ?_)
                      · replace hP := hP.2 (of_decide_eq_true c48)
                        refine e_cn (pc' := 148) i132_146 rfl ?_
                        refine e_rt i132_148 rfl ?_
                        exact ⟨by unfold F132; simp only [if_pos c1, if_pos (show b = 6 from (Decidable.not_not.mp (of_decide_eq_false c2))), if_pos c30, if_pos c31, if_neg (show ¬ (b = 7) from (of_decide_eq_false c32)), if_neg (show ¬ (b = 4) from (of_decide_eq_true c40)), if_pos c41, if_pos (show b = 5 from (Decidable.not_not.mp (of_decide_eq_false c42))), if_pos c45, if_pos c46, if_neg (show ¬ ((gI h 405 a.toNatClampNeg) = 0) from (of_decide_eq_true c48))], rfl⟩
                      · replace hP := hP.1 (Decidable.not_not.mp (of_decide_eq_false c48))
                        refine e_cn (pc' := 143) i132_142 rfl ?_
                        refine e_go i132_143 ?_
                        refine e_rt i132_148 rfl ?_
                        exact ⟨by unfold F132; simp only [if_pos c1, if_pos (show b = 6 from (Decidable.not_not.mp (of_decide_eq_false c2))), if_pos c30, if_pos c31, if_neg (show ¬ (b = 7) from (of_decide_eq_false c32)), if_neg (show ¬ (b = 4) from (of_decide_eq_true c40)), if_pos c41, if_pos (show b = 5 from (Decidable.not_not.mp (of_decide_eq_false c42))), if_pos c45, if_pos c46, if_pos (show (gI h 405 a.toNatClampNeg) = 0 from (Decidable.not_not.mp (of_decide_eq_false c48)))], rfl⟩
            · replace hP := hP.1 (Decidable.not_not.mp (of_decide_eq_false c40))
              refine e_ld (pc' := 52) i132_51 rfl rfl ?_
              refine e_cn (pc' := 53) i132_52 rfl ?_
              refine e_cn (pc' := 55) i132_53 rfl ?_
              refine e_cI (w := .int (b2i (x_in3 c 1 15))) (As := [.int c, .int 1, .int 15]) (rest := []) (pc' := 58) i132_55 rfl rfl rfl rfl rfl m123 ?_
              refine e_b0 (pc' := 61) i132_58 rfl (fun c49 => ?_) (fun c49 => ?_)
              · replace hP := hP.2 (show ¬ (x_in3 c 1 15) = true by rw [c49]; decide)
                refine e_cn (pc' := 90) i132_89 rfl ?_
                refine e_st (ls' := [some (.ref 397), some (.int a), some (.int b), some (.int c), some (.int d), some (.int e), some (.int 0)]) (pc' := 92) i132_90 rfl rfl rfl ?_
                refine e_ld (pc' := 94) i132_92 rfl rfl ?_
                refine e_ifT i132_94 (by decide) ?_
                refine e_cn (pc' := 126) i132_125 rfl ?_
                refine e_st (ls' := [some (.ref 397), some (.int a), some (.int b), some (.int c), some (.int d), some (.int e), some (.int 0)]) (pc' := 128) i132_126 rfl rfl rfl ?_
                refine e_ld (pc' := 130) i132_128 rfl rfl ?_
                refine e_ifT i132_130 (by decide) ?_
                refine e_cn (pc' := 148) i132_146 rfl ?_
                refine e_rt i132_148 rfl ?_
                exact ⟨by unfold F132; simp only [if_pos c1, if_pos (show b = 6 from (Decidable.not_not.mp (of_decide_eq_false c2))), if_pos c30, if_pos c31, if_neg (show ¬ (b = 7) from (of_decide_eq_false c32)), if_pos (show b = 4 from (Decidable.not_not.mp (of_decide_eq_false c40))), if_neg (show ¬ (x_in3 c 1 15) = true by rw [c49]; decide)], rfl⟩
              · replace hP := hP.1 c49
                refine e_ld (pc' := 62) i132_61 rfl rfl ?_
                refine e_cI (w := .int (F131 c h)) (As := [.int c]) (rest := []) (pc' := 65) i132_62 rfl rfl rfl rfl rfl m131 ?_
                refine e_cn (pc' := 66) i132_65 rfl ?_
                refine e_cn (pc' := 67) i132_66 rfl ?_
                refine e_cI (w := .int (b2i (x_in3 (F131 c h) 2 3))) (As := [.int (F131 c h), .int 2, .int 3]) (rest := []) (pc' := 70) i132_67 rfl rfl rfl rfl rfl m123 ?_
                refine e_b0 (pc' := 73) i132_70 rfl (fun c50 => ?_) (fun c50 => ?_)
                · replace hP := hP.2 (show ¬ (x_in3 (F131 c h) 2 3) = true by rw [c50]; decide)
                  refine e_cn (pc' := 90) i132_89 rfl ?_
                  refine e_st (ls' := [some (.ref 397), some (.int a), some (.int b), some (.int c), some (.int d), some (.int e), some (.int 0)]) (pc' := 92) i132_90 rfl rfl rfl ?_
                  refine e_ld (pc' := 94) i132_92 rfl rfl ?_
                  refine e_ifT i132_94 (by decide) ?_
                  refine e_cn (pc' := 126) i132_125 rfl ?_
                  refine e_st (ls' := [some (.ref 397), some (.int a), some (.int b), some (.int c), some (.int d), some (.int e), some (.int 0)]) (pc' := 128) i132_126 rfl rfl rfl ?_
                  refine e_ld (pc' := 130) i132_128 rfl rfl ?_
                  refine e_ifT i132_130 (by decide) ?_
                  refine e_cn (pc' := 148) i132_146 rfl ?_
                  refine e_rt i132_148 rfl ?_
                  exact ⟨by unfold F132; simp only [if_pos c1, if_pos (show b = 6 from (Decidable.not_not.mp (of_decide_eq_false c2))), if_pos c30, if_pos c31, if_neg (show ¬ (b = 7) from (of_decide_eq_false c32)), if_pos (show b = 4 from (Decidable.not_not.mp (of_decide_eq_false c40))), if_pos c49, if_neg (show ¬ (x_in3 (F131 c h) 2 3) = true by rw [c50]; decide)], rfl⟩
                · replace hP := hP.1 c50
                  refine e_go i132_73 ?_
                  refine e_cn (pc' := 86) i132_85 rfl ?_
                  refine e_go i132_86 ?_
                  refine e_st (ls' := [some (.ref 397), some (.int a), some (.int b), some (.int c), some (.int d), some (.int e), some (.int 1)]) (pc' := 92) i132_90 rfl rfl rfl ?_
                  refine e_ld (pc' := 94) i132_92 rfl rfl ?_
                  refine e_ifF (pc' := 97) i132_94 rfl (by decide) ?_
                  refine e_ld (pc' := 98) i132_97 rfl rfl ?_
                  refine e_cn (pc' := 99) i132_98 rfl ?_
                  refine e_ic (pc' := 102) i132_99 rfl (fun c51 => ?_) (fun c51 => ?_)
                  · replace hP := hP.2 (of_decide_eq_true c51)
                    refine e_cn (pc' := 122) i132_121 rfl ?_
                    refine e_go i132_122 ?_
                    refine e_st (ls' := [some (.ref 397), some (.int a), some (.int b), some (.int c), some (.int d), some (.int e), some (.int 1)]) (pc' := 128) i132_126 rfl rfl rfl ?_
                    refine e_ld (pc' := 130) i132_128 rfl rfl ?_
                    refine e_ifF (pc' := 133) i132_130 rfl (by decide) ?_
                    refine e_ld (pc' := 134) i132_133 rfl rfl ?_
                    refine e_get (w := .ref 405) (pc' := 137) i132_134 rfl (x_isC (by decide) hn sh397) (x_fvR (by decide +kernel) (hL 397 8 405 lk397_8)) ?_
                    refine e_ld (pc' := 138) i132_137 rfl rfl ?_
                    obtain ⟨g52, hP⟩ := hP
                    refine e_al (n := a.toNatClampNeg) (w := .int (gI h 405 a.toNatClampNeg)) (pc' := 139) i132_138 rfl (x_alX (a := 20) (by decide) hn sh405 (by decide) g52) rfl rfl ?_
                    refine e_if (pc' := 142) i132_139 rfl (fun c53 => ?_) (fun c53 => ?_)
                    · replace hP := hP.2 (of_decide_eq_true c53)
                      refine e_cn (pc' := 148) i132_146 rfl ?_
                      refine e_rt i132_148 rfl ?_
                      exact ⟨by unfold F132; simp only [if_pos c1, if_pos (show b = 6 from (Decidable.not_not.mp (of_decide_eq_false c2))), if_pos c30, if_pos c31, if_neg (show ¬ (b = 7) from (of_decide_eq_false c32)), if_pos (show b = 4 from (Decidable.not_not.mp (of_decide_eq_false c40))), if_pos c49, if_pos c50, if_neg (show ¬ (b = 5) from (of_decide_eq_true c51)), if_neg (show ¬ ((gI h 405 a.toNatClampNeg) = 0) from (of_decide_eq_true c53))], rfl⟩
                    · replace hP := hP.1 (Decidable.not_not.mp (of_decide_eq_false c53))
                      refine e_cn (pc' := 143) i132_142 rfl ?_
                      refine e_go i132_143 ?_
                      refine e_rt i132_148 rfl ?_
                      exact ⟨by unfold F132; simp only [if_pos c1, if_pos (show b = 6 from (Decidable.not_not.mp (of_decide_eq_false c2))), if_pos c30, if_pos c31, if_neg (show ¬ (b = 7) from (of_decide_eq_false c32)), if_pos (show b = 4 from (Decidable.not_not.mp (of_decide_eq_false c40))), if_pos c49, if_pos c50, if_neg (show ¬ (b = 5) from (of_decide_eq_true c51)), if_pos (show (gI h 405 a.toNatClampNeg) = 0 from (Decidable.not_not.mp (of_decide_eq_false c53)))], rfl⟩
                  · replace hP := hP.1 (Decidable.not_not.mp (of_decide_eq_false c51))
                    refine e_ld (pc' := 104) i132_102 rfl rfl ?_
                    refine e_cI (w := .int (b2i (x_isItem d))) (As := [.int d]) (rest := []) (pc' := 107) i132_104 rfl rfl rfl rfl rfl m126 ?_
                    refine e_b0 (pc' := 110) i132_107 rfl (fun c54 => ?_) (fun c54 => ?_)
                    · replace hP := hP.2 (show ¬ (x_isItem d) = true by rw [c54]; decide)
                      refine e_cn (pc' := 126) i132_125 rfl ?_
                      refine e_st (ls' := [some (.ref 397), some (.int a), some (.int b), some (.int c), some (.int d), some (.int e), some (.int 0)]) (pc' := 128) i132_126 rfl rfl rfl ?_
                      refine e_ld (pc' := 130) i132_128 rfl rfl ?_
                      refine e_ifT i132_130 (by decide) ?_
                      refine e_cn (pc' := 148) i132_146 rfl ?_
                      refine e_rt i132_148 rfl ?_
                      exact ⟨by unfold F132; simp only [if_pos c1, if_pos (show b = 6 from (Decidable.not_not.mp (of_decide_eq_false c2))), if_pos c30, if_pos c31, if_neg (show ¬ (b = 7) from (of_decide_eq_false c32)), if_pos (show b = 4 from (Decidable.not_not.mp (of_decide_eq_false c40))), if_pos c49, if_pos c50, if_pos (show b = 5 from (Decidable.not_not.mp (of_decide_eq_false c51))), if_neg (show ¬ (x_isItem d) = true by rw [c54]; decide)], rfl⟩
                    · replace hP := hP.1 c54
                      refine e_ld (pc' := 112) i132_110 rfl rfl ?_
                      refine e_cn (pc' := 113) i132_112 rfl ?_
                      refine e_cn (pc' := 115) i132_113 rfl ?_
                      refine e_cI (w := .int (b2i (x_in3 e 1 60))) (As := [.int e, .int 1, .int 60]) (rest := []) (pc' := 118) i132_115 rfl rfl rfl rfl rfl m123 ?_
                      refine e_b0 (pc' := 121) i132_118 rfl (fun c55 => ?_) (fun c55 => ?_)
                      · replace hP := hP.2 (show ¬ (x_in3 e 1 60) = true by rw [c55]; decide)
                        refine e_cn (pc' := 126) i132_125 rfl ?_
                        refine e_st (ls' := [some (.ref 397), some (.int a), some (.int b), some (.int c), some (.int d), some (.int e), some (.int 0)]) (pc' := 128) i132_126 rfl rfl rfl ?_
                        refine e_ld (pc' := 130) i132_128 rfl rfl ?_
                        refine e_ifT i132_130 (by decide) ?_
                        refine e_cn (pc' := 148) i132_146 rfl ?_
                        refine e_rt i132_148 rfl ?_
                        exact ⟨by unfold F132; simp only [if_pos c1, if_pos (show b = 6 from (Decidable.not_not.mp (of_decide_eq_false c2))), if_pos c30, if_pos c31, if_neg (show ¬ (b = 7) from (of_decide_eq_false c32)), if_pos (show b = 4 from (Decidable.not_not.mp (of_decide_eq_false c40))), if_pos c49, if_pos c50, if_pos (show b = 5 from (Decidable.not_not.mp (of_decide_eq_false c51))), if_pos c54, if_neg (show ¬ (x_in3 e 1 60) = true by rw [c55]; decide)], rfl⟩
                      · replace hP := hP.1 c55
                        refine e_cn (pc' := 122) i132_121 rfl ?_
                        refine e_go i132_122 ?_
                        refine e_st (ls' := [some (.ref 397), some (.int a), some (.int b), some (.int c), some (.int d), some (.int e), some (.int 1)]) (pc' := 128) i132_126 rfl rfl rfl ?_
                        refine e_ld (pc' := 130) i132_128 rfl rfl ?_
                        refine e_ifF (pc' := 133) i132_130 rfl (by decide) ?_
                        refine e_ld (pc' := 134) i132_133 rfl rfl ?_
                        refine e_get (w := .ref 405) (pc' := 137) i132_134 rfl (x_isC (by decide) hn sh397) (x_fvR (by decide +kernel) (hL 397 8 405 lk397_8)) ?_
                        refine e_ld (pc' := 138) i132_137 rfl rfl ?_
                        obtain ⟨g56, hP⟩ := hP
                        refine e_al (n := a.toNatClampNeg) (w := .int (gI h 405 a.toNatClampNeg)) (pc' := 139) i132_138 rfl (x_alX (a := 20) (by decide) hn sh405 (by decide) g56) rfl rfl ?_
                        refine e_if (pc' := 142) i132_139 rfl (fun c57 => ?_) (fun c57 => ?_)
                        · replace hP := hP.2 (of_decide_eq_true c57)
                          refine e_cn (pc' := 148) i132_146 rfl ?_
                          refine e_rt i132_148 rfl ?_
                          exact ⟨by unfold F132; simp only [if_pos c1, if_pos (show b = 6 from (Decidable.not_not.mp (of_decide_eq_false c2))), if_pos c30, if_pos c31, if_neg (show ¬ (b = 7) from (of_decide_eq_false c32)), if_pos (show b = 4 from (Decidable.not_not.mp (of_decide_eq_false c40))), if_pos c49, if_pos c50, if_pos (show b = 5 from (Decidable.not_not.mp (of_decide_eq_false c51))), if_pos c54, if_pos c55, if_neg (show ¬ ((gI h 405 a.toNatClampNeg) = 0) from (of_decide_eq_true c57))], rfl⟩
                        · replace hP := hP.1 (Decidable.not_not.mp (of_decide_eq_false c57))
                          refine e_cn (pc' := 143) i132_142 rfl ?_
                          refine e_go i132_143 ?_
                          refine e_rt i132_148 rfl ?_
                          exact ⟨by unfold F132; simp only [if_pos c1, if_pos (show b = 6 from (Decidable.not_not.mp (of_decide_eq_false c2))), if_pos c30, if_pos c31, if_neg (show ¬ (b = 7) from (of_decide_eq_false c32)), if_pos (show b = 4 from (Decidable.not_not.mp (of_decide_eq_false c40))), if_pos c49, if_pos c50, if_pos (show b = 5 from (Decidable.not_not.mp (of_decide_eq_false c51))), if_pos c54, if_pos c55, if_pos (show (gI h 405 a.toNatClampNeg) = 0 from (Decidable.not_not.mp (of_decide_eq_false c57)))], rfl⟩
      · replace hP := hP.2 (show ¬ (x_in3 d 0 ((gI h 397 1) - 1)) = true by rw [c30]; decide)
        refine e_cn (pc' := 29) i132_28 rfl ?_
        refine e_rt i132_29 rfl ?_
        exact ⟨by unfold F132; simp only [if_pos c1, if_pos (show b = 6 from (Decidable.not_not.mp (of_decide_eq_false c2))), if_neg (show ¬ (x_in3 d 0 ((gI h 397 1) - 1)) = true by rw [c30]; decide)], rfl⟩
