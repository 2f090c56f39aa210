/-! The reference's methods without loops, as functions. -/
/-- FloorTurnModel.refuse(I)I -/
def F124 (a : Int32) (h : Hp) : Int32 := a
def G124 (a : Int32) (h : Hp) : Hp := aI h 398 ((-a).toNatClampNeg) 1
theorem n_G124 (a : Int32) (h : Hp) : (G124 a h).1 = h.1 := by
  unfold G124
  (repeat' split) <;> first | (simp only [n_sI, n_aI, n_bI, n_sL, n_sR]; done) | rfl
theorem r_G124 (a : Int32) (h : Hp) : gR (G124 a h) = gR h := by
  unfold G124
  (repeat' split) <;> first | (simp only [gR_sI, gR_aI, gR_bI, gR_sL]; done) | rfl
def P124 (a : Int32) (h : Hp) : Prop := (vp_in (-a) 8) ∧ ((vp_in (-a) 8) ∧ (True))
set_option maxHeartbeats 8000000 in
set_option maxRecDepth 100000 in
theorem m124 {L : Nat} {xs : Nat → Int32} {h : Hp} {a : Int32} (hn : 444 ≤ h.1) (hL : LK h) (hP : P124 a h) : Sp L xs 124 [.ref 397, .int a] h (some (.int (F124 a h))) (G124 a h) := by
  unfold P124 at hP
  refine sp_of (ls := [some (.ref 397), some (.int a)]) rfl ?_
  refine e_ld (pc' := 1) i124_0 rfl rfl ?_
  refine e_get (w := .ref 398) (pc' := 4) i124_1 rfl (x_isC (by decide) hn sh397) (x_fvR (by decide +kernel) (hL 397 0 398 lk397_0)) ?_
  refine e_ld (pc' := 5) i124_4 rfl rfl ?_
  refine e_un (pc' := 6) i124_5 rfl rfl ?_
  refine e_stk (pc' := 7) i124_6 rfl rfl ?_
  obtain ⟨g1, hP⟩ := hP
  refine e_al (n := (-a).toNatClampNeg) (w := .int (gI h 398 ((-a).toNatClampNeg))) (pc' := 8) i124_7 rfl (x_alX (a := 20) (by decide) hn sh398 (by decide) g1) rfl rfl ?_
  refine e_cn (pc' := 9) i124_8 rfl ?_
  refine e_ib (z := (gI h 398 ((-a).toNatClampNeg)) + 1) (pc' := 10) i124_9 rfl rfl ?_
  obtain ⟨g2, hP⟩ := hP
  refine e_as (n := (-a).toNatClampNeg) (h' := aI h 398 ((-a).toNatClampNeg) 1) (pc' := 11) i124_10 rfl (x_alX (a := 20) (by decide) hn sh398 (by decide) g2) rfl (by rw [show (SH 398).1 = 20 by rw [sh398]]; rfl) ?_
  have hn3 : 444 ≤ (aI h 398 ((-a).toNatClampNeg) 1).1 := le_aI hn
  have hL3 : LK (aI h 398 ((-a).toNatClampNeg) 1) := LK_aI hL
  refine e_ld (pc' := 12) i124_11 rfl rfl ?_
  refine e_rt i124_12 rfl ?_
  exact ⟨by unfold F124; skip; rfl, by unfold G124; skip; rfl⟩
/-- FloorTurnModel.next(II)I -/
def F127 (a : Int32) (b : Int32) (h : Hp) : Int32 := if (x_in3 ((a - a / 12 * 12) + (if b = 1 then (1) else (if b = 3 then ((-1)) else (0)))) 0 11) = true then (if (x_in3 ((a / 12) + (if b = 2 then (1) else (if b = 0 then ((-1)) else (0)))) 0 11) = true then ((12 * ((a / 12) + (if b = 2 then (1) else (if b = 0 then ((-1)) else (0))))) + ((a - a / 12 * 12) + (if b = 1 then (1) else (if b = 3 then ((-1)) else (0))))) else ((-1))) else ((-1))
set_option maxHeartbeats 8000000 in
set_option maxRecDepth 100000 in
theorem m127 {L : Nat} {xs : Nat → Int32} {h : Hp} {a : Int32} {b : Int32}  : Sp L xs 127 [.int a, .int b] h (some (.int (F127 a b h))) h := by
  refine sp_of (ls := [some (.int a), some (.int b), none, none]) rfl ?_
  refine e_ld (pc' := 1) i127_0 rfl rfl ?_
  refine e_cn (pc' := 3) i127_1 rfl ?_
  refine e_ib (z := a - a / 12 * 12) (pc' := 4) i127_3 rfl (x_ib_rem (by decide)) ?_
  refine e_ld (pc' := 5) i127_4 rfl rfl ?_
  refine e_cn (pc' := 6) i127_5 rfl ?_
  refine e_reg (pc' := 23) (ls' := [some (.int a), some (.int b), none, none]) (st' := [.int (if b = 1 then (1) else (if b = 3 then ((-1)) else (0))), .int (a - a / 12 * 12)]) (fun kj1 => ?_) ?_
  · skip
    refine e_ic (pc' := 9) i127_6 rfl (fun c2 => ?_) (fun c2 => ?_)
    · skip
      refine e_ld (pc' := 14) i127_13 rfl rfl ?_
      refine e_cn (pc' := 15) i127_14 rfl ?_
      refine e_reg (pc' := 23) (ls' := [some (.int a), some (.int b), none, none]) (st' := [.int (if b = 3 then ((-1)) else (0)), .int (a - a / 12 * 12)]) (fun kj3 => ?_) ?_
      · skip
        refine e_ic (pc' := 18) i127_15 rfl (fun c4 => ?_) (fun c4 => ?_)
        · skip
          refine e_cn (pc' := 23) i127_22 rfl ?_
          exact (by simp only [if_neg (show ¬ (b = 3) from (of_decide_eq_true c4))] at kj3 ⊢; exact kj3)
        · skip
          refine e_cn (pc' := 19) i127_18 rfl ?_
          refine e_go i127_19 ?_
          exact (by simp only [if_pos (show b = 3 from (Decidable.not_not.mp (of_decide_eq_false c4)))] at kj3 ⊢; exact kj3)
      exact (by simp only [if_neg (show ¬ (b = 1) from (of_decide_eq_true c2))] at kj1 ⊢; exact kj1)
    · skip
      refine e_cn (pc' := 10) i127_9 rfl ?_
      refine e_go i127_10 ?_
      exact (by simp only [if_pos (show b = 1 from (Decidable.not_not.mp (of_decide_eq_false c2)))] at kj1 ⊢; exact kj1)
  refine e_ib (z := (a - a / 12 * 12) + (if b = 1 then (1) else (if b = 3 then ((-1)) else (0)))) (pc' := 24) i127_23 rfl rfl ?_
  refine e_st (ls' := [some (.int a), some (.int b), some (.int ((a - a / 12 * 12) + (if b = 1 then (1) else (if b = 3 then ((-1)) else (0))))), none]) (pc' := 25) i127_24 rfl rfl rfl ?_
  refine e_ld (pc' := 26) i127_25 rfl rfl ?_
  refine e_cn (pc' := 28) i127_26 rfl ?_
  refine e_ib (z := a / 12) (pc' := 29) i127_28 rfl (x_ib_div (by decide)) ?_
  refine e_ld (pc' := 30) i127_29 rfl rfl ?_
  refine e_cn (pc' := 31) i127_30 rfl ?_
  refine e_reg (pc' := 47) (ls' := [some (.int a), some (.int b), some (.int ((a - a / 12 * 12) + (if b = 1 then (1) else (if b = 3 then ((-1)) else (0))))), none]) (st' := [.int (if b = 2 then (1) else (if b = 0 then ((-1)) else (0))), .int (a / 12)]) (fun kj5 => ?_) ?_
  · skip
    refine e_ic (pc' := 34) i127_31 rfl (fun c6 => ?_) (fun c6 => ?_)
    · skip
      refine e_ld (pc' := 39) i127_38 rfl rfl ?_
      refine e_reg (pc' := 47) (ls' := [some (.int a), some (.int b), some (.int ((a - a / 12 * 12) + (if b = 1 then (1) else (if b = 3 then ((-1)) else (0))))), none]) (st' := [.int (if b = 0 then ((-1)) else (0)), .int (a / 12)]) (fun kj7 => ?_) ?_
      · skip
        refine e_if (pc' := 42) i127_39 rfl (fun c8 => ?_) (fun c8 => ?_)
        · skip
          refine e_cn (pc' := 47) i127_46 rfl ?_
          exact (by simp only [if_neg (show ¬ (b = 0) from (of_decide_eq_true c8))] at kj7 ⊢; exact kj7)
        · skip
          refine e_cn (pc' := 43) i127_42 rfl ?_
          refine e_go i127_43 ?_
          exact (by simp only [if_pos (show b = 0 from (Decidable.not_not.mp (of_decide_eq_false c8)))] at kj7 ⊢; exact kj7)
      exact (by simp only [if_neg (show ¬ (b = 2) from (of_decide_eq_true c6))] at kj5 ⊢; exact kj5)
    · skip
      refine e_cn (pc' := 35) i127_34 rfl ?_
      refine e_go i127_35 ?_
      exact (by simp only [if_pos (show b = 2 from (Decidable.not_not.mp (of_decide_eq_false c6)))] at kj5 ⊢; exact kj5)
  refine e_ib (z := (a / 12) + (if b = 2 then (1) else (if b = 0 then ((-1)) else (0)))) (pc' := 48) i127_47 rfl rfl ?_
  refine e_st (ls' := [some (.int a), some (.int b), some (.int ((a - a / 12 * 12) + (if b = 1 then (1) else (if b = 3 then ((-1)) else (0))))), some (.int ((a / 12) + (if b = 2 then (1) else (if b = 0 then ((-1)) else (0)))))]) (pc' := 49) i127_48 rfl rfl rfl ?_
  refine e_ld (pc' := 50) i127_49 rfl rfl ?_
  refine e_cn (pc' := 51) i127_50 rfl ?_
  refine e_cn (pc' := 53) i127_51 rfl ?_
  refine e_cI (w := .int (b2i (x_in3 ((a - a / 12 * 12) + (if b = 1 then (1) else (if b = 3 then ((-1)) else (0)))) 0 11))) (As := [.int ((a - a / 12 * 12) + (if b = 1 then (1) else (if b = 3 then ((-1)) else (0)))), .int 0, .int 11]) (rest := []) (pc' := 56) i127_53 rfl rfl rfl rfl rfl m123 ?_
  refine e_reg (pc' := 79) (ls' := [some (.int a), some (.int b), some (.int ((a - a / 12 * 12) + (if b = 1 then (1) else (if b = 3 then ((-1)) else (0))))), some (.int ((a / 12) + (if b = 2 then (1) else (if b = 0 then ((-1)) else (0)))))]) (st' := [.int (if (x_in3 ((a - a / 12 * 12) + (if b = 1 then (1) else (if b = 3 then ((-1)) else (0)))) 0 11) = true then (if (x_in3 ((a / 12) + (if b = 2 then (1) else (if b = 0 then ((-1)) else (0)))) 0 11) = true then ((12 * ((a / 12) + (if b = 2 then (1) else (if b = 0 then ((-1)) else (0))))) + ((a - a / 12 * 12) + (if b = 1 then (1) else (if b = 3 then ((-1)) else (0))))) else ((-1))) else ((-1)))]) (fun kj9 => ?_) ?_
  · skip
    refine e_b0 (pc' := 59) i127_56 rfl (fun c10 => ?_) (fun c10 => ?_)
    · skip
      refine e_cn (pc' := 79) i127_78 rfl ?_
      exact (by simp only [if_neg (show ¬ (x_in3 ((a - a / 12 * 12) + (if b = 1 then (1) else (if b = 3 then ((-1)) else (0)))) 0 11) = true by rw [c10]; decide)] at kj9 ⊢; exact kj9)
    · skip
      refine e_ld (pc' := 60) i127_59 rfl rfl ?_
      refine e_cn (pc' := 61) i127_60 rfl ?_
      refine e_cn (pc' := 63) i127_61 rfl ?_
      refine e_cI (w := .int (b2i (x_in3 ((a / 12) + (if b = 2 then (1) else (if b = 0 then ((-1)) else (0)))) 0 11))) (As := [.int ((a / 12) + (if b = 2 then (1) else (if b = 0 then ((-1)) else (0)))), .int 0, .int 11]) (rest := []) (pc' := 66) i127_63 rfl rfl rfl rfl rfl m123 ?_
      refine e_reg (pc' := 79) (ls' := [some (.int a), some (.int b), some (.int ((a - a / 12 * 12) + (if b = 1 then (1) else (if b = 3 then ((-1)) else (0))))), some (.int ((a / 12) + (if b = 2 then (1) else (if b = 0 then ((-1)) else (0)))))]) (st' := [.int (if (x_in3 ((a / 12) + (if b = 2 then (1) else (if b = 0 then ((-1)) else (0)))) 0 11) = true then ((12 * ((a / 12) + (if b = 2 then (1) else (if b = 0 then ((-1)) else (0))))) + ((a - a / 12 * 12) + (if b = 1 then (1) else (if b = 3 then ((-1)) else (0))))) else ((-1)))]) (fun kj11 => ?_) ?_
      · skip
        refine e_b0 (pc' := 69) i127_66 rfl (fun c12 => ?_) (fun c12 => ?_)
        · skip
          refine e_cn (pc' := 79) i127_78 rfl ?_
          exact (by simp only [if_neg (show ¬ (x_in3 ((a / 12) + (if b = 2 then (1) else (if b = 0 then ((-1)) else (0)))) 0 11) = true by rw [c12]; decide)] at kj11 ⊢; exact kj11)
        · skip
          refine e_cn (pc' := 71) i127_69 rfl ?_
          refine e_ld (pc' := 72) i127_71 rfl rfl ?_
          refine e_ib (z := 12 * ((a / 12) + (if b = 2 then (1) else (if b = 0 then ((-1)) else (0))))) (pc' := 73) i127_72 rfl rfl ?_
          refine e_ld (pc' := 74) i127_73 rfl rfl ?_
          refine e_ib (z := (12 * ((a / 12) + (if b = 2 then (1) else (if b = 0 then ((-1)) else (0))))) + ((a - a / 12 * 12) + (if b = 1 then (1) else (if b = 3 then ((-1)) else (0))))) (pc' := 75) i127_74 rfl rfl ?_
          refine e_go i127_75 ?_
          exact (by simp only [if_pos c12] at kj11 ⊢; exact kj11)
      exact (by simp only [if_pos c10] at kj9 ⊢; exact kj9)
  refine e_rt i127_79 rfl ?_
  exact ⟨by unfold F127; skip; rfl, rfl⟩
/-- FloorTurnModel.leads(II)Z -/
def F128 (a : Int32) (b : Int32) (h : Hp) : Bool := if (gI h 405 a.toNatClampNeg) = 4 then (if (((gI h 406 a.toNatClampNeg) >>> ((b : Int32) &&& 31)) &&& 1) = 1 then (true) else (false)) else (if (gI h 405 a.toNatClampNeg) = 0 then (false) else (if (gI h 405 a.toNatClampNeg) = 7 then (false) else (if (gI h 406 a.toNatClampNeg) = b then (true) else (false))))
def P128 (a : Int32) (b : Int32) (h : Hp) : Prop := (vp_in a 144) ∧ (((((gI h 405 a.toNatClampNeg) = 4) → ((vp_in a 144) ∧ (True))) ∧ (¬ ((gI h 405 a.toNatClampNeg) = 4) → (((((gI h 405 a.toNatClampNeg) = 0) → (True)) ∧ (¬ ((gI h 405 a.toNatClampNeg) = 0) → (((((gI h 405 a.toNatClampNeg) = 7) → (True)) ∧ (¬ ((gI h 405 a.toNatClampNeg) = 7) → ((vp_in a 144) ∧ (True)))) ∧ (True)))) ∧ (True)))) ∧ (True))
set_option maxHeartbeats 8000000 in
set_option maxRecDepth 100000 in
theorem m128 {L : Nat} {xs : Nat → Int32} {h : Hp} {a : Int32} {b : Int32} (hn : 444 ≤ h.1) (hL : LK h) (hP : P128 a b h) : Sp L xs 128 [.ref 397, .int a, .int b] h (some (.int (b2i (F128 a b h)))) h := by
  unfold P128 at hP
  refine sp_of (ls := [some (.ref 397), some (.int a), some (.int b), none]) rfl ?_
  refine e_ld (pc' := 1) i128_0 rfl rfl ?_
  refine e_get (w := .ref 405) (pc' := 4) i128_1 rfl (x_isC (by decide) hn sh397) (x_fvR (by decide +kernel) (hL 397 8 405 lk397_8)) ?_
  refine e_ld (pc' := 5) i128_4 rfl rfl ?_
  obtain ⟨g1, hP⟩ := hP
  refine e_al (n := a.toNatClampNeg) (w := .int (gI h 405 a.toNatClampNeg)) (pc' := 6) i128_5 rfl (x_alX (a := 20) (by decide) hn sh405 (by decide) g1) rfl rfl ?_
  refine e_st (ls' := [some (.ref 397), some (.int a), some (.int b), some (.int (gI h 405 a.toNatClampNeg))]) (pc' := 7) i128_6 rfl rfl rfl ?_
  refine e_ld (pc' := 8) i128_7 rfl rfl ?_
  refine e_cn (pc' := 9) i128_8 rfl ?_
  obtain ⟨hR16, hP⟩ := hP
  refine e_reg (pc' := 59) (ls' := [some (.ref 397), some (.int a), some (.int b), some (.int (gI h 405 a.toNatClampNeg))]) (st' := [.int (b2i (if (gI h 405 a.toNatClampNeg) = 4 then (if (((gI h 406 a.toNatClampNeg) >>> ((b : Int32) &&& 31)) &&& 1) = 1 then (true) else (false)) else (if (gI h 405 a.toNatClampNeg) = 0 then (false) else (if (gI h 405 a.toNatClampNeg) = 7 then (false) else (if (gI h 406 a.toNatClampNeg) = b then (true) else (false))))))]) (fun kj2 => ?_) ?_
  · replace hP := hR16
    refine e_ic (pc' := 12) i128_9 rfl (fun c3 => ?_) (fun c3 => ?_)
    · replace hP := hP.2 (of_decide_eq_true c3)
      refine e_ld (pc' := 35) i128_34 rfl rfl ?_
      obtain ⟨hR12, hP⟩ := hP
      refine e_reg (pc' := 59) (ls' := [some (.ref 397), some (.int a), some (.int b), some (.int (gI h 405 a.toNatClampNeg))]) (st' := [.int (b2i (if (gI h 405 a.toNatClampNeg) = 0 then (false) else (if (gI h 405 a.toNatClampNeg) = 7 then (false) else (if (gI h 406 a.toNatClampNeg) = b then (true) else (false)))))]) (fun kj4 => ?_) ?_
      · replace hP := hR12
        refine e_if (pc' := 38) i128_35 rfl (fun c5 => ?_) (fun c5 => ?_)
        · replace hP := hP.1 (of_decide_eq_true c5)
          refine e_cn (pc' := 59) i128_58 rfl ?_
          exact (by simp only [if_pos (show (gI h 405 a.toNatClampNeg) = 0 from (of_decide_eq_true c5))] at kj4 ⊢; exact kj4)
        · replace hP := hP.2 (of_decide_eq_false c5)
          refine e_ld (pc' := 39) i128_38 rfl rfl ?_
          refine e_cn (pc' := 41) i128_39 rfl ?_
          obtain ⟨hR11, hP⟩ := hP
          refine e_reg (pc' := 59) (ls' := [some (.ref 397), some (.int a), some (.int b), some (.int (gI h 405 a.toNatClampNeg))]) (st' := [.int (b2i (if (gI h 405 a.toNatClampNeg) = 7 then (false) else (if (gI h 406 a.toNatClampNeg) = b then (true) else (false))))]) (fun kj6 => ?_) ?_
          · replace hP := hR11
            refine e_ic (pc' := 44) i128_41 rfl (fun c7 => ?_) (fun c7 => ?_)
            · replace hP := hP.1 (of_decide_eq_true c7)
              refine e_cn (pc' := 59) i128_58 rfl ?_
              exact (by simp only [if_pos (show (gI h 405 a.toNatClampNeg) = 7 from (of_decide_eq_true c7))] at kj6 ⊢; exact kj6)
            · replace hP := hP.2 (of_decide_eq_false c7)
              refine e_ld (pc' := 45) i128_44 rfl rfl ?_
              refine e_get (w := .ref 406) (pc' := 48) i128_45 rfl (x_isC (by decide) hn sh397) (x_fvR (by decide +kernel) (hL 397 9 406 lk397_9)) ?_
              refine e_ld (pc' := 49) i128_48 rfl rfl ?_
              obtain ⟨g8, hP⟩ := hP
              refine e_al (n := a.toNatClampNeg) (w := .int (gI h 406 a.toNatClampNeg)) (pc' := 50) i128_49 rfl (x_alX (a := 20) (by decide) hn sh406 (by decide) g8) rfl rfl ?_
              refine e_ld (pc' := 51) i128_50 rfl rfl ?_
              refine e_reg (pc' := 59) (ls' := [some (.ref 397), some (.int a), some (.int b), some (.int (gI h 405 a.toNatClampNeg))]) (st' := [.int (b2i (if (gI h 406 a.toNatClampNeg) = b then (true) else (false)))]) (fun kj9 => ?_) ?_
              · skip
                refine e_ic (pc' := 54) i128_51 rfl (fun c10 => ?_) (fun c10 => ?_)
                · skip
                  refine e_cn (pc' := 59) i128_58 rfl ?_
                  exact (by simp only [if_neg (show ¬ ((gI h 406 a.toNatClampNeg) = b) from (of_decide_eq_true c10))] at kj9 ⊢; exact kj9)
                · skip
                  refine e_cn (pc' := 55) i128_54 rfl ?_
                  refine e_go i128_55 ?_
                  exact (by simp only [if_pos (show (gI h 406 a.toNatClampNeg) = b from (Decidable.not_not.mp (of_decide_eq_false c10)))] at kj9 ⊢; exact kj9)
              exact (by simp only [if_neg (show ¬ ((gI h 405 a.toNatClampNeg) = 7) from (of_decide_eq_false c7))] at kj6 ⊢; exact kj6)
          exact (by simp only [if_neg (show ¬ ((gI h 405 a.toNatClampNeg) = 0) from (of_decide_eq_false c5))] at kj4 ⊢; exact kj4)
      exact (by simp only [if_neg (show ¬ ((gI h 405 a.toNatClampNeg) = 4) from (of_decide_eq_true c3))] at kj2 ⊢; exact kj2)
    · replace hP := hP.1 (Decidable.not_not.mp (of_decide_eq_false c3))
      refine e_ld (pc' := 13) i128_12 rfl rfl ?_
      refine e_get (w := .ref 406) (pc' := 16) i128_13 rfl (x_isC (by decide) hn sh397) (x_fvR (by decide +kernel) (hL 397 9 406 lk397_9)) ?_
      refine e_ld (pc' := 17) i128_16 rfl rfl ?_
      obtain ⟨g13, hP⟩ := hP
      refine e_al (n := a.toNatClampNeg) (w := .int (gI h 406 a.toNatClampNeg)) (pc' := 18) i128_17 rfl (x_alX (a := 20) (by decide) hn sh406 (by decide) g13) rfl rfl ?_
      refine e_ld (pc' := 19) i128_18 rfl rfl ?_
      refine e_ib (z := (gI h 406 a.toNatClampNeg) >>> ((b : Int32) &&& 31)) (pc' := 20) i128_19 rfl rfl ?_
      refine e_cn (pc' := 21) i128_20 rfl ?_
      refine e_ib (z := ((gI h 406 a.toNatClampNeg) >>> ((b : Int32) &&& 31)) &&& 1) (pc' := 22) i128_21 rfl rfl ?_
      refine e_cn (pc' := 23) i128_22 rfl ?_
      refine e_reg (pc' := 59) (ls' := [some (.ref 397), some (.int a), some (.int b), some (.int (gI h 405 a.toNatClampNeg))]) (st' := [.int (b2i (if (((gI h 406 a.toNatClampNeg) >>> ((b : Int32) &&& 31)) &&& 1) = 1 then (true) else (false)))]) (fun kj14 => ?_) ?_
      · skip
        refine e_ic (pc' := 26) i128_23 rfl (fun c15 => ?_) (fun c15 => ?_)
        · skip
          refine e_cn (pc' := 31) i128_30 rfl ?_
          refine e_go i128_31 ?_
          exact (by simp only [if_neg (show ¬ ((((gI h 406 a.toNatClampNeg) >>> ((b : Int32) &&& 31)) &&& 1) = 1) from (of_decide_eq_true c15))] at kj14 ⊢; exact kj14)
        · skip
          refine e_cn (pc' := 27) i128_26 rfl ?_
          refine e_go i128_27 ?_
          exact (by simp only [if_pos (show (((gI h 406 a.toNatClampNeg) >>> ((b : Int32) &&& 31)) &&& 1) = 1 from (Decidable.not_not.mp (of_decide_eq_false c15)))] at kj14 ⊢; exact kj14)
      exact (by simp only [if_pos (show (gI h 405 a.toNatClampNeg) = 4 from (Decidable.not_not.mp (of_decide_eq_false c3)))] at kj2 ⊢; exact kj2)
  refine e_rt (r := some (.int (b2i (if (gI h 405 a.toNatClampNeg) = 4 then (if (((gI h 406 a.toNatClampNeg) >>> ((b : Int32) &&& 31)) &&& 1) = 1 then (true) else (false)) else (if (gI h 405 a.toNatClampNeg) = 0 then (false) else (if (gI h 405 a.toNatClampNeg) = 7 then (false) else (if (gI h 406 a.toNatClampNeg) = b then (true) else (false)))))))) i128_59 (by simp only [x_rt, show MR 128 = some .boolean by decide +kernel, b2i_01, cond_true]) ?_
  exact ⟨by unfold F128; skip; rfl, rfl⟩
/-- FloorTurnModel.many(I)I -/
def F131 (a : Int32) (h : Hp) : Int32 := (((a &&& 1) + ((a >>> ((1 : Int32) &&& 31)) &&& 1)) + ((a >>> ((2 : Int32) &&& 31)) &&& 1)) + ((a >>> ((3 : Int32) &&& 31)) &&& 1)
set_option maxHeartbeats 8000000 in
set_option maxRecDepth 100000 in
theorem m131 {L : Nat} {xs : Nat → Int32} {h : Hp} {a : Int32}  : Sp L xs 131 [.int a] h (some (.int (F131 a h))) h := by
  refine sp_of (ls := [some (.int a)]) rfl ?_
  refine e_ld (pc' := 1) i131_0 rfl rfl ?_
  refine e_cn (pc' := 2) i131_1 rfl ?_
  refine e_ib (z := a &&& 1) (pc' := 3) i131_2 rfl rfl ?_
  refine e_ld (pc' := 4) i131_3 rfl rfl ?_
  refine e_cn (pc' := 5) i131_4 rfl ?_
  refine e_ib (z := a >>> ((1 : Int32) &&& 31)) (pc' := 6) i131_5 rfl rfl ?_
  refine e_cn (pc' := 7) i131_6 rfl ?_
  refine e_ib (z := (a >>> ((1 : Int32) &&& 31)) &&& 1) (pc' := 8) i131_7 rfl rfl ?_
  refine e_ib (z := (a &&& 1) + ((a >>> ((1 : Int32) &&& 31)) &&& 1)) (pc' := 9) i131_8 rfl rfl ?_
  refine e_ld (pc' := 10) i131_9 rfl rfl ?_
  refine e_cn (pc' := 11) i131_10 rfl ?_
  refine e_ib (z := a >>> ((2 : Int32) &&& 31)) (pc' := 12) i131_11 rfl rfl ?_
  refine e_cn (pc' := 13) i131_12 rfl ?_
  refine e_ib (z := (a >>> ((2 : Int32) &&& 31)) &&& 1) (pc' := 14) i131_13 rfl rfl ?_
  refine e_ib (z := ((a &&& 1) + ((a >>> ((1 : Int32) &&& 31)) &&& 1)) + ((a >>> ((2 : Int32) &&& 31)) &&& 1)) (pc' := 15) i131_14 rfl rfl ?_
  refine e_ld (pc' := 16) i131_15 rfl rfl ?_
  refine e_cn (pc' := 17) i131_16 rfl ?_
  refine e_ib (z := a >>> ((3 : Int32) &&& 31)) (pc' := 18) i131_17 rfl rfl ?_
  refine e_cn (pc' := 19) i131_18 rfl ?_
  refine e_ib (z := (a >>> ((3 : Int32) &&& 31)) &&& 1) (pc' := 20) i131_19 rfl rfl ?_
  refine e_ib (z := (((a &&& 1) + ((a >>> ((1 : Int32) &&& 31)) &&& 1)) + ((a >>> ((2 : Int32) &&& 31)) &&& 1)) + ((a >>> ((3 : Int32) &&& 31)) &&& 1)) (pc' := 21) i131_20 rfl rfl ?_
  refine e_rt i131_21 rfl ?_
  exact ⟨by unfold F131; skip; rfl, rfl⟩
/-- FloorTurnModel.built(IIIII)I -/
def F132 (a : Int32) (b : Int32) (c : Int32) (d : Int32) (e : Int32) (h : Hp) : Int32 := if (x_isCell a) = true then (if b = 6 then (if (x_in3 d 0 ((gI h 397 1) - 1)) = true then (if (if (if (x_in3 b 1 7) = true then (if b = 7 then (true) else (if b = 4 then (if (x_in3 c 1 15) = true then (if (x_in3 (F131 c h) 2 3) = true then (true) else (false)) else (false)) else (if (x_in3 c 0 3) = true then (true) else (false)))) else (false)) = true then (if b = 5 then (if (x_isItem d) = true then (if (x_in3 e 1 60) = true then (true) else (false)) else (false)) else (true)) else (false)) = true then (if (gI h 405 a.toNatClampNeg) = 0 then (1) else ((-6))) else ((-6))) else ((-1))) else (if (if (if (x_in3 b 1 7) = true then (if b = 7 then (true) else (if b = 4 then (if (x_in3 c 1 15) = true then (if (x_in3 (F131 c h) 2 3) = true then (true) else (false)) else (false)) else (if (x_in3 c 0 3) = true then (true) else (false)))) else (false)) = true then (if b = 5 then (if (x_isItem d) = true then (if (x_in3 e 1 60) = true then (true) else (false)) else (false)) else (true)) else (false)) = true then (if (gI h 405 a.toNatClampNeg) = 0 then (1) else ((-6))) else ((-6)))) else ((-1))
def P132 (a : Int32) (b : Int32) (c : Int32) (d : Int32) (e : Int32) (h : Hp) : Prop := (((x_isCell a) = true) → (((b = 6) → ((((x_in3 d 0 ((gI h 397 1) - 1)) = true) → (((((if (if (x_in3 b 1 7) = true then (if b = 7 then (true) else (if b = 4 then (if (x_in3 c 1 15) = true then (if (x_in3 (F131 c h) 2 3) = true then (true) else (false)) else (false)) else (if (x_in3 c 0 3) = true then (true) else (false)))) else (false)) = true then (if b = 5 then (if (x_isItem d) = true then (if (x_in3 e 1 60) = true then (true) else (false)) else (false)) else (true)) else (false)) = true) → ((vp_in a 144) ∧ (True))) ∧ (¬ ((if (if (x_in3 b 1 7) = true then (if b = 7 then (true) else (if b = 4 then (if (x_in3 c 1 15) = true then (if (x_in3 (F131 c h) 2 3) = true then (true) else (false)) else (false)) else (if (x_in3 c 0 3) = true then (true) else (false)))) else (false)) = true then (if b = 5 then (if (x_isItem d) = true then (if (x_in3 e 1 60) = true then (true) else (false)) else (false)) else (true)) else (false)) = true) → (True))) ∧ (True))) ∧ (¬ ((x_in3 d 0 ((gI h 397 1) - 1)) = true) → (True)))) ∧ (¬ (b = 6) → (((((if (if (x_in3 b 1 7) = true then (if b = 7 then (true) else (if b = 4 then (if (x_in3 c 1 15) = true then (if (x_in3 (F131 c h) 2 3) = true then (true) else (false)) else (false)) else (if (x_in3 c 0 3) = true then (true) else (false)))) else (false)) = true then (if b = 5 then (if (x_isItem d) = true then (if (x_in3 e 1 60) = true then (true) else (false)) else (false)) else (true)) else (false)) = true) → ((vp_in a 144) ∧ (True))) ∧ (¬ ((if (if (x_in3 b 1 7) = true then (if b = 7 then (true) else (if b = 4 then (if (x_in3 c 1 15) = true then (if (x_in3 (F131 c h) 2 3) = true then (true) else (false)) else (false)) else (if (x_in3 c 0 3) = true then (true) else (false)))) else (false)) = true then (if b = 5 then (if (x_isItem d) = true then (if (x_in3 e 1 60) = true then (true) else (false)) else (false)) else (true)) else (false)) = true) → (True))) ∧ (True))))) ∧ (¬ ((x_isCell a) = true) → (True))
set_option maxHeartbeats 8000000 in
set_option maxRecDepth 100000 in
theorem m132 {L : Nat} {xs : Nat → Int32} {h : Hp} {a : Int32} {b : Int32} {c : Int32} {d : Int32} {e : Int32} (hn : 444 ≤ h.1) (hL : LK h) (hP : P132 a b c d e h) : Sp L xs 132 [.ref 397, .int a, .int b, .int c, .int d, .int e] h (some (.int (F132 a b c d e h))) h := by
  unfold P132 at hP
  refine sp_of (ls := [some (.ref 397), some (.int a), some (.int b), some (.int c), some (.int d), some (.int e), none]) rfl ?_
  refine e_ld (pc' := 1) i132_0 rfl rfl ?_
  refine e_cI (w := .int (b2i (x_isCell a))) (As := [.int a]) (rest := []) (pc' := 4) i132_1 rfl rfl rfl rfl rfl m125 ?_
  refine e_b0 (pc' := 7) i132_4 rfl (fun c1 => ?_) (fun c1 => ?_)
  · replace hP := hP.2 (show ¬ (x_isCell a) = true by rw [c1]; decide)
    refine e_cn (pc' := 29) i132_28 rfl ?_
    refine e_rt i132_29 rfl ?_
    exact ⟨by unfold F132; simp only [if_neg (show ¬ (x_isCell a) = true by rw [c1]; decide)], rfl⟩
  · replace hP := hP.1 c1
    refine e_ld (pc' := 8) i132_7 rfl rfl ?_
    refine e_cn (pc' := 10) i132_8 rfl ?_
    refine e_ic (pc' := 13) i132_10 rfl (fun c2 => ?_) (fun c2 => ?_)
    · replace hP := hP.2 (of_decide_eq_true c2)
      refine e_ld (pc' := 31) i132_30 rfl rfl ?_
      refine e_cn (pc' := 32) i132_31 rfl ?_
      refine e_cn (pc' := 34) i132_32 rfl ?_
      refine e_cI (w := .int (b2i (x_in3 b 1 7))) (As := [.int b, .int 1, .int 7]) (rest := []) (pc' := 37) i132_34 rfl rfl rfl rfl rfl m123 ?_
      refine e_reg (pc' := 90) (ls' := [some (.ref 397), some (.int a), some (.int b), some (.int c), some (.int d), some (.int e), none]) (st' := [.int (b2i (if (x_in3 b 1 7) = true then (if b = 7 then (true) else (if b = 4 then (if (x_in3 c 1 15) = true then (if (x_in3 (F131 c h) 2 3) = true then (true) else (false)) else (false)) else (if (x_in3 c 0 3) = true then (true) else (false)))) else (false)))]) (fun kj3 => ?_) ?_
      · skip
        refine e_b0 (pc' := 40) i132_37 rfl (fun c4 => ?_) (fun c4 => ?_)
        · skip
          refine e_cn (pc' := 90) i132_89 rfl ?_
          exact (by simp only [if_neg (show ¬ (x_in3 b 1 7) = true by rw [c4]; decide)] at kj3 ⊢; exact kj3)
        · skip
          refine e_ld (pc' := 41) i132_40 rfl rfl ?_
          refine e_cn (pc' := 43) i132_41 rfl ?_
          refine e_reg (pc' := 90) (ls' := [some (.ref 397), some (.int a), some (.int b), some (.int c), some (.int d), some (.int e), none]) (st' := [.int (b2i (if b = 7 then (true) else (if b = 4 then (if (x_in3 c 1 15) = true then (if (x_in3 (F131 c h) 2 3) = true then (true) else (false)) else (false)) else (if (x_in3 c 0 3) = true then (true) else (false)))))]) (fun kj5 => ?_) ?_
          · skip
            refine e_ic (pc' := 46) i132_43 rfl (fun c6 => ?_) (fun c6 => ?_)
            · skip
              refine e_cn (pc' := 86) i132_85 rfl ?_
              refine e_go i132_86 ?_
              exact (by simp only [if_pos (show b = 7 from (of_decide_eq_true c6))] at kj5 ⊢; exact kj5)
            · skip
              refine e_ld (pc' := 47) i132_46 rfl rfl ?_
              refine e_cn (pc' := 48) i132_47 rfl ?_
              refine e_reg (pc' := 90) (ls' := [some (.ref 397), some (.int a), some (.int b), some (.int c), some (.int d), some (.int e), none]) (st' := [.int (b2i (if b = 4 then (if (x_in3 c 1 15) = true then (if (x_in3 (F131 c h) 2 3) = true then (true) else (false)) else (false)) else (if (x_in3 c 0 3) = true then (true) else (false))))]) (fun kj7 => ?_) ?_
              · skip
                refine e_ic (pc' := 51) i132_48 rfl (fun c8 => ?_) (fun c8 => ?_)
                · skip
                  refine e_ld (pc' := 77) i132_76 rfl rfl ?_
                  refine e_cn (pc' := 78) i132_77 rfl ?_
                  refine e_cn (pc' := 79) i132_78 rfl ?_
                  refine e_cI (w := .int (b2i (x_in3 c 0 3))) (As := [.int c, .int 0, .int 3]) (rest := []) (pc' := 82) i132_79 rfl rfl rfl rfl rfl m123 ?_
                  refine e_reg (pc' := 90) (ls' := [some (.ref 397), some (.int a), some (.int b), some (.int c), some (.int d), some (.int e), none]) (st' := [.int (b2i (if (x_in3 c 0 3) = true then (true) else (false)))]) (fun kj9 => ?_) ?_
                  · skip
                    refine e_b0 (pc' := 85) i132_82 rfl (fun c10 => ?_) (fun c10 => ?_)
                    · skip
                      refine e_cn (pc' := 90) i132_89 rfl ?_
                      exact (by simp only [if_neg (show ¬ (x_in3 c 0 3) = true by rw [c10]; decide)] at kj9 ⊢; exact kj9)
                    · skip
                      refine e_cn (pc' := 86) i132_85 rfl ?_
                      refine e_go i132_86 ?_
                      exact (by simp only [if_pos c10] at kj9 ⊢; exact kj9)
                  exact (by simp only [if_neg (show ¬ (b = 4) from (of_decide_eq_true c8))] at kj7 ⊢; exact kj7)
                · skip
                  refine e_ld (pc' := 52) i132_51 rfl rfl ?_
                  refine e_cn (pc' := 53) i132_52 rfl ?_
                  refine e_cn (pc' := 55) i132_53 rfl ?_
                  refine e_cI (w := .int (b2i (x_in3 c 1 15))) (As := [.int c, .int 1, .int 15]) (rest := []) (pc' := 58) i132_55 rfl rfl rfl rfl rfl m123 ?_
                  refine e_reg (pc' := 90) (ls' := [some (.ref 397), some (.int a), some (.int b), some (.int c), some (.int d), some (.int e), none]) (st' := [.int (b2i (if (x_in3 c 1 15) = true then (if (x_in3 (F131 c h) 2 3) = true then (true) else (false)) else (false)))]) (fun kj11 => ?_) ?_
                  · skip
                    refine e_b0 (pc' := 61) i132_58 rfl (fun c12 => ?_) (fun c12 => ?_)
                    · skip
                      refine e_cn (pc' := 90) i132_89 rfl ?_
                      exact (by simp only [if_neg (show ¬ (x_in3 c 1 15) = true by rw [c12]; decide)] at kj11 ⊢; exact kj11)
                    · skip
                      refine e_ld (pc' := 62) i132_61 rfl rfl ?_
                      refine e_cI (w := .int (F131 c h)) (As := [.int c]) (rest := []) (pc' := 65) i132_62 rfl rfl rfl rfl rfl m131 ?_
                      refine e_cn (pc' := 66) i132_65 rfl ?_
                      refine e_cn (pc' := 67) i132_66 rfl ?_
                      refine e_cI (w := .int (b2i (x_in3 (F131 c h) 2 3))) (As := [.int (F131 c h), .int 2, .int 3]) (rest := []) (pc' := 70) i132_67 rfl rfl rfl rfl rfl m123 ?_
                      refine e_reg (pc' := 90) (ls' := [some (.ref 397), some (.int a), some (.int b), some (.int c), some (.int d), some (.int e), none]) (st' := [.int (b2i (if (x_in3 (F131 c h) 2 3) = true then (true) else (false)))]) (fun kj13 => ?_) ?_
                      · skip
                        refine e_b0 (pc' := 73) i132_70 rfl (fun c14 => ?_) (fun c14 => ?_)
                        · skip
                          refine e_cn (pc' := 90) i132_89 rfl ?_
                          exact (by simp only [if_neg (show ¬ (x_in3 (F131 c h) 2 3) = true by rw [c14]; decide)] at kj13 ⊢; exact kj13)
                        · skip
                          refine e_go i132_73 ?_
                          refine e_cn (pc' := 86) i132_85 rfl ?_
                          refine e_go i132_86 ?_
                          exact (by simp only [if_pos c14] at kj13 ⊢; exact kj13)
                      exact (by simp only [if_pos c12] at kj11 ⊢; exact kj11)
                  exact (by simp only [if_pos (show b = 4 from (Decidable.not_not.mp (of_decide_eq_false c8)))] at kj7 ⊢; exact kj7)
              exact (by simp only [if_neg (show ¬ (b = 7) from (of_decide_eq_false c6))] at kj5 ⊢; exact kj5)
          exact (by simp only [if_pos c4] at kj3 ⊢; exact kj3)
      refine e_st (ls' := [some (.ref 397), some (.int a), some (.int b), some (.int c), some (.int d), some (.int e), some (.int (b2i (if (x_in3 b 1 7) = true then (if b = 7 then (true) else (if b = 4 then (if (x_in3 c 1 15) = true then (if (x_in3 (F131 c h) 2 3) = true then (true) else (false)) else (false)) else (if (x_in3 c 0 3) = true then (true) else (false)))) else (false))))]) (pc' := 92) i132_90 rfl rfl rfl ?_
      refine e_ld (pc' := 94) i132_92 rfl rfl ?_
      refine e_reg (pc' := 126) (ls' := [some (.ref 397), some (.int a), some (.int b), some (.int c), some (.int d), some (.int e), some (.int (b2i (if (x_in3 b 1 7) = true then (if b = 7 then (true) else (if b = 4 then (if (x_in3 c 1 15) = true then (if (x_in3 (F131 c h) 2 3) = true then (true) else (false)) else (false)) else (if (x_in3 c 0 3) = true then (true) else (false)))) else (false))))]) (st' := [.int (b2i (if (if (x_in3 b 1 7) = true then (if b = 7 then (true) else (if b = 4 then (if (x_in3 c 1 15) = true then (if (x_in3 (F131 c h) 2 3) = true then (true) else (false)) else (false)) else (if (x_in3 c 0 3) = true then (true) else (false)))) else (false)) = true then (if b = 5 then (if (x_isItem d) = true then (if (x_in3 e 1 60) = true then (true) else (false)) else (false)) else (true)) else (false)))]) (fun kj15 => ?_) ?_
      · skip
        refine e_b0 (pc' := 97) i132_94 rfl (fun c16 => ?_) (fun c16 => ?_)
        · skip
          refine e_cn (pc' := 126) i132_125 rfl ?_
          exact (by simp only [if_neg (show ¬ (if (x_in3 b 1 7) = true then (if b = 7 then (true) else (if b = 4 then (if (x_in3 c 1 15) = true then (if (x_in3 (F131 c h) 2 3) = true then (true) else (false)) else (false)) else (if (x_in3 c 0 3) = true then (true) else (false)))) else (false)) = true by rw [c16]; decide)] at kj15 ⊢; exact kj15)
        · skip
          refine e_ld (pc' := 98) i132_97 rfl rfl ?_
          refine e_cn (pc' := 99) i132_98 rfl ?_
          refine e_reg (pc' := 126) (ls' := [some (.ref 397), some (.int a), some (.int b), some (.int c), some (.int d), some (.int e), some (.int (b2i (if (x_in3 b 1 7) = true then (if b = 7 then (true) else (if b = 4 then (if (x_in3 c 1 15) = true then (if (x_in3 (F131 c h) 2 3) = true then (true) else (false)) else (false)) else (if (x_in3 c 0 3) = true then (true) else (false)))) else (false))))]) (st' := [.int (b2i (if b = 5 then (if (x_isItem d) = true then (if (x_in3 e 1 60) = true then (true) else (false)) else (false)) else (true)))]) (fun kj17 => ?_) ?_
          · skip
            refine e_ic (pc' := 102) i132_99 rfl (fun c18 => ?_) (fun c18 => ?_)
            · skip
              refine e_cn (pc' := 122) i132_121 rfl ?_
              refine e_go i132_122 ?_
              exact (by simp only [if_neg (show ¬ (b = 5) from (of_decide_eq_true c18))] at kj17 ⊢; exact kj17)
            · skip
              refine e_ld (pc' := 104) i132_102 rfl rfl ?_
              refine e_cI (w := .int (b2i (x_isItem d))) (As := [.int d]) (rest := []) (pc' := 107) i132_104 rfl rfl rfl rfl rfl m126 ?_
              refine e_reg (pc' := 126) (ls' := [some (.ref 397), some (.int a), some (.int b), some (.int c), some (.int d), some (.int e), some (.int (b2i (if (x_in3 b 1 7) = true then (if b = 7 then (true) else (if b = 4 then (if (x_in3 c 1 15) = true then (if (x_in3 (F131 c h) 2 3) = true then (true) else (false)) else (false)) else (if (x_in3 c 0 3) = true then (true) else (false)))) else (false))))]) (st' := [.int (b2i (if (x_isItem d) = true then (if (x_in3 e 1 60) = true then (true) else (false)) else (false)))]) (fun kj19 => ?_) ?_
              · skip
                refine e_b0 (pc' := 110) i132_107 rfl (fun c20 => ?_) (fun c20 => ?_)
                · skip
                  refine e_cn (pc' := 126) i132_125 rfl ?_
                  exact (by simp only [if_neg (show ¬ (x_isItem d) = true by rw [c20]; decide)] at kj19 ⊢; exact kj19)
                · skip
                  refine e_ld (pc' := 112) i132_110 rfl rfl ?_
                  refine e_cn (pc' := 113) i132_112 rfl ?_
                  refine e_cn (pc' := 115) i132_113 rfl ?_
                  refine e_cI (w := .int (b2i (x_in3 e 1 60))) (As := [.int e, .int 1, .int 60]) (rest := []) (pc' := 118) i132_115 rfl rfl rfl rfl rfl m123 ?_
                  refine e_reg (pc' := 126) (ls' := [some (.ref 397), some (.int a), some (.int b), some (.int c), some (.int d), some (.int e), some (.int (b2i (if (x_in3 b 1 7) = true then (if b = 7 then (true) else (if b = 4 then (if (x_in3 c 1 15) = true then (if (x_in3 (F131 c h) 2 3) = true then (true) else (false)) else (false)) else (if (x_in3 c 0 3) = true then (true) else (false)))) else (false))))]) (st' := [.int (b2i (if (x_in3 e 1 60) = true then (true) else (false)))]) (fun kj21 => ?_) ?_
                  · skip
                    refine e_b0 (pc' := 121) i132_118 rfl (fun c22 => ?_) (fun c22 => ?_)
                    · skip
                      refine e_cn (pc' := 126) i132_125 rfl ?_
                      exact (by simp only [if_neg (show ¬ (x_in3 e 1 60) = true by rw [c22]; decide)] at kj21 ⊢; exact kj21)
                    · skip
                      refine e_cn (pc' := 122) i132_121 rfl ?_
                      refine e_go i132_122 ?_
                      exact (by simp only [if_pos c22] at kj21 ⊢; exact kj21)
                  exact (by simp only [if_pos c20] at kj19 ⊢; exact kj19)
              exact (by simp only [if_pos (show b = 5 from (Decidable.not_not.mp (of_decide_eq_false c18)))] at kj17 ⊢; exact kj17)
          exact (by simp only [if_pos c16] at kj15 ⊢; exact kj15)
      refine e_st (ls' := [some (.ref 397), some (.int a), some (.int b), some (.int c), some (.int d), some (.int e), some (.int (b2i (if (if (x_in3 b 1 7) = true then (if b = 7 then (true) else (if b = 4 then (if (x_in3 c 1 15) = true then (if (x_in3 (F131 c h) 2 3) = true then (true) else (false)) else (false)) else (if (x_in3 c 0 3) = true then (true) else (false)))) else (false)) = true then (if b = 5 then (if (x_isItem d) = true then (if (x_in3 e 1 60) = true then (true) else (false)) else (false)) else (true)) else (false))))]) (pc' := 128) i132_126 rfl rfl rfl ?_
      refine e_ld (pc' := 130) i132_128 rfl rfl ?_
      obtain ⟨hR28, hP⟩ := hP
      refine e_reg (pc' := 148) (ls' := [some (.ref 397), some (.int a), some (.int b), some (.int c), some (.int d), some (.int e), some (.int (b2i (if (if (x_in3 b 1 7) = true then (if b = 7 then (true) else (if b = 4 then (if (x_in3 c 1 15) = true then (if (x_in3 (F131 c h) 2 3) = true then (true) else (false)) else (false)) else (if (x_in3 c 0 3) = true then (true) else (false)))) else (false)) = true then (if b = 5 then (if (x_isItem d) = true then (if (x_in3 e 1 60) = true then (true) else (false)) else (false)) else (true)) else (false))))]) (st' := [.int (if (if (if (x_in3 b 1 7) = true then (if b = 7 then (true) else (if b = 4 then (if (x_in3 c 1 15) = true then (if (x_in3 (F131 c h) 2 3) = true then (true) else (false)) else (false)) else (if (x_in3 c 0 3) = true then (true) else (false)))) else (false)) = true then (if b = 5 then (if (x_isItem d) = true then (if (x_in3 e 1 60) = true then (true) else (false)) else (false)) else (true)) else (false)) = true then (if (gI h 405 a.toNatClampNeg) = 0 then (1) else ((-6))) else ((-6)))]) (fun kj23 => ?_) ?_
      · replace hP := hR28
        refine e_b0 (pc' := 133) i132_130 rfl (fun c24 => ?_) (fun c24 => ?_)
        · replace hP := hP.2 (show ¬ (if (if (x_in3 b 1 7) = true then (if b = 7 then (true) else (if b = 4 then (if (x_in3 c 1 15) = true then (if (x_in3 (F131 c h) 2 3) = true then (true) else (false)) else (false)) else (if (x_in3 c 0 3) = true then (true) else (false)))) else (false)) = true then (if b = 5 then (if (x_isItem d) = true then (if (x_in3 e 1 60) = true then (true) else (false)) else (false)) else (true)) else (false)) = true by rw [c24]; decide)
          refine e_cn (pc' := 148) i132_146 rfl ?_
          exact (by simp only [if_neg (show ¬ (if (if (x_in3 b 1 7) = true then (if b = 7 then (true) else (if b = 4 then (if (x_in3 c 1 15) = true then (if (x_in3 (F131 c h) 2 3) = true then (true) else (false)) else (false)) else (if (x_in3 c 0 3) = true then (true) else (false)))) else (false)) = true then (if b = 5 then (if (x_isItem d) = true then (if (x_in3 e 1 60) = true then (true) else (false)) else (false)) else (true)) else (false)) = true by rw [c24]; decide)] at kj23 ⊢; exact kj23)
        · replace hP := hP.1 c24
          refine e_ld (pc' := 134) i132_133 rfl rfl ?_
          refine e_get (w := .ref 405) (pc' := 137) i132_134 rfl (x_isC (by decide) hn sh397) (x_fvR (by decide +kernel) (hL 397 8 405 lk397_8)) ?_
          refine e_ld (pc' := 138) i132_137 rfl rfl ?_
          obtain ⟨g25, hP⟩ := hP
          refine e_al (n := a.toNatClampNeg) (w := .int (gI h 405 a.toNatClampNeg)) (pc' := 139) i132_138 rfl (x_alX (a := 20) (by decide) hn sh405 (by decide) g25) rfl rfl ?_
          refine e_reg (pc' := 148) (ls' := [some (.ref 397), some (.int a), some (.int b), some (.int c), some (.int d), some (.int e), some (.int (b2i (if (if (x_in3 b 1 7) = true then (if b = 7 then (true) else (if b = 4 then (if (x_in3 c 1 15) = true then (if (x_in3 (F131 c h) 2 3) = true then (true) else (false)) else (false)) else (if (x_in3 c 0 3) = true then (true) else (false)))) else (false)) = true then (if b = 5 then (if (x_isItem d) = true then (if (x_in3 e 1 60) = true then (true) else (false)) else (false)) else (true)) else (false))))]) (st' := [.int (if (gI h 405 a.toNatClampNeg) = 0 then (1) else ((-6)))]) (fun kj26 => ?_) ?_
          · skip
            refine e_if (pc' := 142) i132_139 rfl (fun c27 => ?_) (fun c27 => ?_)
            · skip
              refine e_cn (pc' := 148) i132_146 rfl ?_
              exact (by simp only [if_neg (show ¬ ((gI h 405 a.toNatClampNeg) = 0) from (of_decide_eq_true c27))] at kj26 ⊢; exact kj26)
            · skip
              refine e_cn (pc' := 143) i132_142 rfl ?_
              refine e_go i132_143 ?_
              exact (by simp only [if_pos (show (gI h 405 a.toNatClampNeg) = 0 from (Decidable.not_not.mp (of_decide_eq_false c27)))] at kj26 ⊢; exact kj26)
          exact (by simp only [if_pos c24] at kj23 ⊢; exact kj23)
      refine e_rt i132_148 rfl ?_
      exact ⟨by unfold F132; simp only [if_pos c1, if_neg (show ¬ (b = 6) from (of_decide_eq_true c2))], rfl⟩
    · replace hP := hP.1 (Decidable.not_not.mp (of_decide_eq_false c2))
      refine e_ld (pc' := 15) i132_13 rfl rfl ?_
      refine e_cn (pc' := 16) i132_15 rfl ?_
      refine e_ld (pc' := 17) i132_16 rfl rfl ?_
      refine e_get (w := .int (gI h 397 1)) (pc' := 20) i132_17 rfl (x_isC (by decide) hn sh397) rfl ?_
      refine e_cn (pc' := 21) i132_20 rfl ?_
      refine e_ib (z := (gI h 397 1) - 1) (pc' := 22) i132_21 rfl rfl ?_
      refine e_cI (w := .int (b2i (x_in3 d 0 ((gI h 397 1) - 1)))) (As := [.int d, .int 0, .int ((gI h 397 1) - 1)]) (rest := []) (pc' := 25) i132_22 rfl rfl rfl rfl rfl m123 ?_
      refine e_b1 (pc' := 28) i132_25 rfl (fun c29 => ?_) (fun c29 => ?_)
      · replace hP := hP.1 c29
        refine e_ld (pc' := 31) i132_30 rfl rfl ?_
        refine e_cn (pc' := 32) i132_31 rfl ?_
        refine e_cn (pc' := 34) i132_32 rfl ?_
        refine e_cI (w := .int (b2i (x_in3 b 1 7))) (As := [.int b, .int 1, .int 7]) (rest := []) (pc' := 37) i132_34 rfl rfl rfl rfl rfl m123 ?_
        refine e_reg (pc' := 90) (ls' := [some (.ref 397), some (.int a), some (.int b), some (.int c), some (.int d), some (.int e), none]) (st' := [.int (b2i (if (x_in3 b 1 7) = true then (if b = 7 then (true) else (if b = 4 then (if (x_in3 c 1 15) = true then (if (x_in3 (F131 c h) 2 3) = true then (true) else (false)) else (false)) else (if (x_in3 c 0 3) = true then (true) else (false)))) else (false)))]) (fun kj30 => ?_) ?_
        · skip
          refine e_b0 (pc' := 40) i132_37 rfl (fun c31 => ?_) (fun c31 => ?_)
          · skip
            refine e_cn (pc' := 90) i132_89 rfl ?_
            exact (by simp only [if_neg (show ¬ (x_in3 b 1 7) = true by rw [c31]; decide)] at kj30 ⊢; exact kj30)
          · skip
            refine e_ld (pc' := 41) i132_40 rfl rfl ?_
            refine e_cn (pc' := 43) i132_41 rfl ?_
            refine e_reg (pc' := 90) (ls' := [some (.ref 397), some (.int a), some (.int b), some (.int c), some (.int d), some (.int e), none]) (st' := [.int (b2i (if b = 7 then (true) else (if b = 4 then (if (x_in3 c 1 15) = true then (if (x_in3 (F131 c h) 2 3) = true then (true) else (false)) else (false)) else (if (x_in3 c 0 3) = true then (true) else (false)))))]) (fun kj32 => ?_) ?_
            · skip
              refine e_ic (pc' := 46) i132_43 rfl (fun c33 => ?_) (fun c33 => ?_)
              · skip
                refine e_cn (pc' := 86) i132_85 rfl ?_
                refine e_go i132_86 ?_
                exact (by simp only [if_pos (show b = 7 from (of_decide_eq_true c33))] at kj32 ⊢; exact kj32)
              · skip
                refine e_ld (pc' := 47) i132_46 rfl rfl ?_
                refine e_cn (pc' := 48) i132_47 rfl ?_
                refine e_reg (pc' := 90) (ls' := [some (.ref 397), some (.int a), some (.int b), some (.int c), some (.int d), some (.int e), none]) (st' := [.int (b2i (if b = 4 then (if (x_in3 c 1 15) = true then (if (x_in3 (F131 c h) 2 3) = true then (true) else (false)) else (false)) else (if (x_in3 c 0 3) = true then (true) else (false))))]) (fun kj34 => ?_) ?_
                · skip
                  refine e_ic (pc' := 51) i132_48 rfl (fun c35 => ?_) (fun c35 => ?_)
                  · skip
                    refine e_ld (pc' := 77) i132_76 rfl rfl ?_
                    refine e_cn (pc' := 78) i132_77 rfl ?_
                    refine e_cn (pc' := 79) i132_78 rfl ?_
                    refine e_cI (w := .int (b2i (x_in3 c 0 3))) (As := [.int c, .int 0, .int 3]) (rest := []) (pc' := 82) i132_79 rfl rfl rfl rfl rfl m123 ?_
                    refine e_reg (pc' := 90) (ls' := [some (.ref 397), some (.int a), some (.int b), some (.int c), some (.int d), some (.int e), none]) (st' := [.int (b2i (if (x_in3 c 0 3) = true then (true) else (false)))]) (fun kj36 => ?_) ?_
                    · skip
                      refine e_b0 (pc' := 85) i132_82 rfl (fun c37 => ?_) (fun c37 => ?_)
                      · skip
                        refine e_cn (pc' := 90) i132_89 rfl ?_
                        exact (by simp only [if_neg (show ¬ (x_in3 c 0 3) = true by rw [c37]; decide)] at kj36 ⊢; exact kj36)
                      · skip
                        refine e_cn (pc' := 86) i132_85 rfl ?_
                        refine e_go i132_86 ?_
                        exact (by simp only [if_pos c37] at kj36 ⊢; exact kj36)
                    exact (by simp only [if_neg (show ¬ (b = 4) from (of_decide_eq_true c35))] at kj34 ⊢; exact kj34)
                  · skip
                    refine e_ld (pc' := 52) i132_51 rfl rfl ?_
                    refine e_cn (pc' := 53) i132_52 rfl ?_
                    refine e_cn (pc' := 55) i132_53 rfl ?_
                    refine e_cI (w := .int (b2i (x_in3 c 1 15))) (As := [.int c, .int 1, .int 15]) (rest := []) (pc' := 58) i132_55 rfl rfl rfl rfl rfl m123 ?_
                    refine e_reg (pc' := 90) (ls' := [some (.ref 397), some (.int a), some (.int b), some (.int c), some (.int d), some (.int e), none]) (st' := [.int (b2i (if (x_in3 c 1 15) = true then (if (x_in3 (F131 c h) 2 3) = true then (true) else (false)) else (false)))]) (fun kj38 => ?_) ?_
                    · skip
                      refine e_b0 (pc' := 61) i132_58 rfl (fun c39 => ?_) (fun c39 => ?_)
                      · skip
                        refine e_cn (pc' := 90) i132_89 rfl ?_
                        exact (by simp only [if_neg (show ¬ (x_in3 c 1 15) = true by rw [c39]; decide)] at kj38 ⊢; exact kj38)
                      · skip
                        refine e_ld (pc' := 62) i132_61 rfl rfl ?_
                        refine e_cI (w := .int (F131 c h)) (As := [.int c]) (rest := []) (pc' := 65) i132_62 rfl rfl rfl rfl rfl m131 ?_
                        refine e_cn (pc' := 66) i132_65 rfl ?_
                        refine e_cn (pc' := 67) i132_66 rfl ?_
                        refine e_cI (w := .int (b2i (x_in3 (F131 c h) 2 3))) (As := [.int (F131 c h), .int 2, .int 3]) (rest := []) (pc' := 70) i132_67 rfl rfl rfl rfl rfl m123 ?_
                        refine e_reg (pc' := 90) (ls' := [some (.ref 397), some (.int a), some (.int b), some (.int c), some (.int d), some (.int e), none]) (st' := [.int (b2i (if (x_in3 (F131 c h) 2 3) = true then (true) else (false)))]) (fun kj40 => ?_) ?_
                        · skip
                          refine e_b0 (pc' := 73) i132_70 rfl (fun c41 => ?_) (fun c41 => ?_)
                          · skip
                            refine e_cn (pc' := 90) i132_89 rfl ?_
                            exact (by simp only [if_neg (show ¬ (x_in3 (F131 c h) 2 3) = true by rw [c41]; decide)] at kj40 ⊢; exact kj40)
                          · skip
                            refine e_go i132_73 ?_
                            refine e_cn (pc' := 86) i132_85 rfl ?_
                            refine e_go i132_86 ?_
                            exact (by simp only [if_pos c41] at kj40 ⊢; exact kj40)
                        exact (by simp only [if_pos c39] at kj38 ⊢; exact kj38)
                    exact (by simp only [if_pos (show b = 4 from (Decidable.not_not.mp (of_decide_eq_false c35)))] at kj34 ⊢; exact kj34)
                exact (by simp only [if_neg (show ¬ (b = 7) from (of_decide_eq_false c33))] at kj32 ⊢; exact kj32)
            exact (by simp only [if_pos c31] at kj30 ⊢; exact kj30)
        refine e_st (ls' := [some (.ref 397), some (.int a), some (.int b), some (.int c), some (.int d), some (.int e), some (.int (b2i (if (x_in3 b 1 7) = true then (if b = 7 then (true) else (if b = 4 then (if (x_in3 c 1 15) = true then (if (x_in3 (F131 c h) 2 3) = true then (true) else (false)) else (false)) else (if (x_in3 c 0 3) = true then (true) else (false)))) else (false))))]) (pc' := 92) i132_90 rfl rfl rfl ?_
        refine e_ld (pc' := 94) i132_92 rfl rfl ?_
        refine e_reg (pc' := 126) (ls' := [some (.ref 397), some (.int a), some (.int b), some (.int c), some (.int d), some (.int e), some (.int (b2i (if (x_in3 b 1 7) = true then (if b = 7 then (true) else (if b = 4 then (if (x_in3 c 1 15) = true then (if (x_in3 (F131 c h) 2 3) = true then (true) else (false)) else (false)) else (if (x_in3 c 0 3) = true then (true) else (false)))) else (false))))]) (st' := [.int (b2i (if (if (x_in3 b 1 7) = true then (if b = 7 then (true) else (if b = 4 then (if (x_in3 c 1 15) = true then (if (x_in3 (F131 c h) 2 3) = true then (true) else (false)) else (false)) else (if (x_in3 c 0 3) = true then (true) else (false)))) else (false)) = true then (if b = 5 then (if (x_isItem d) = true then (if (x_in3 e 1 60) = true then (true) else (false)) else (false)) else (true)) else (false)))]) (fun kj42 => ?_) ?_
        · skip
          refine e_b0 (pc' := 97) i132_94 rfl (fun c43 => ?_) (fun c43 => ?_)
          · skip
            refine e_cn (pc' := 126) i132_125 rfl ?_
            exact (by simp only [if_neg (show ¬ (if (x_in3 b 1 7) = true then (if b = 7 then (true) else (if b = 4 then (if (x_in3 c 1 15) = true then (if (x_in3 (F131 c h) 2 3) = true then (true) else (false)) else (false)) else (if (x_in3 c 0 3) = true then (true) else (false)))) else (false)) = true by rw [c43]; decide)] at kj42 ⊢; exact kj42)
          · skip
            refine e_ld (pc' := 98) i132_97 rfl rfl ?_
            refine e_cn (pc' := 99) i132_98 rfl ?_
            refine e_reg (pc' := 126) (ls' := [some (.ref 397), some (.int a), some (.int b), some (.int c), some (.int d), some (.int e), some (.int (b2i (if (x_in3 b 1 7) = true then (if b = 7 then (true) else (if b = 4 then (if (x_in3 c 1 15) = true then (if (x_in3 (F131 c h) 2 3) = true then (true) else (false)) else (false)) else (if (x_in3 c 0 3) = true then (true) else (false)))) else (false))))]) (st' := [.int (b2i (if b = 5 then (if (x_isItem d) = true then (if (x_in3 e 1 60) = true then (true) else (false)) else (false)) else (true)))]) (fun kj44 => ?_) ?_
            · skip
              refine e_ic (pc' := 102) i132_99 rfl (fun c45 => ?_) (fun c45 => ?_)
              · skip
                refine e_cn (pc' := 122) i132_121 rfl ?_
                refine e_go i132_122 ?_
                exact (by simp only [if_neg (show ¬ (b = 5) from (of_decide_eq_true c45))] at kj44 ⊢; exact kj44)
              · skip
                refine e_ld (pc' := 104) i132_102 rfl rfl ?_
                refine e_cI (w := .int (b2i (x_isItem d))) (As := [.int d]) (rest := []) (pc' := 107) i132_104 rfl rfl rfl rfl rfl m126 ?_
                refine e_reg (pc' := 126) (ls' := [some (.ref 397), some (.int a), some (.int b), some (.int c), some (.int d), some (.int e), some (.int (b2i (if (x_in3 b 1 7) = true then (if b = 7 then (true) else (if b = 4 then (if (x_in3 c 1 15) = true then (if (x_in3 (F131 c h) 2 3) = true then (true) else (false)) else (false)) else (if (x_in3 c 0 3) = true then (true) else (false)))) else (false))))]) (st' := [.int (b2i (if (x_isItem d) = true then (if (x_in3 e 1 60) = true then (true) else (false)) else (false)))]) (fun kj46 => ?_) ?_
                · skip
                  refine e_b0 (pc' := 110) i132_107 rfl (fun c47 => ?_) (fun c47 => ?_)
                  · skip
                    refine e_cn (pc' := 126) i132_125 rfl ?_
                    exact (by simp only [if_neg (show ¬ (x_isItem d) = true by rw [c47]; decide)] at kj46 ⊢; exact kj46)
                  · skip
                    refine e_ld (pc' := 112) i132_110 rfl rfl ?_
                    refine e_cn (pc' := 113) i132_112 rfl ?_
                    refine e_cn (pc' := 115) i132_113 rfl ?_
                    refine e_cI (w := .int (b2i (x_in3 e 1 60))) (As := [.int e, .int 1, .int 60]) (rest := []) (pc' := 118) i132_115 rfl rfl rfl rfl rfl m123 ?_
                    refine e_reg (pc' := 126) (ls' := [some (.ref 397), some (.int a), some (.int b), some (.int c), some (.int d), some (.int e), some (.int (b2i (if (x_in3 b 1 7) = true then (if b = 7 then (true) else (if b = 4 then (if (x_in3 c 1 15) = true then (if (x_in3 (F131 c h) 2 3) = true then (true) else (false)) else (false)) else (if (x_in3 c 0 3) = true then (true) else (false)))) else (false))))]) (st' := [.int (b2i (if (x_in3 e 1 60) = true then (true) else (false)))]) (fun kj48 => ?_) ?_
                    · skip
                      refine e_b0 (pc' := 121) i132_118 rfl (fun c49 => ?_) (fun c49 => ?_)
                      · skip
                        refine e_cn (pc' := 126) i132_125 rfl ?_
                        exact (by simp only [if_neg (show ¬ (x_in3 e 1 60) = true by rw [c49]; decide)] at kj48 ⊢; exact kj48)
                      · skip
                        refine e_cn (pc' := 122) i132_121 rfl ?_
                        refine e_go i132_122 ?_
                        exact (by simp only [if_pos c49] at kj48 ⊢; exact kj48)
                    exact (by simp only [if_pos c47] at kj46 ⊢; exact kj46)
                exact (by simp only [if_pos (show b = 5 from (Decidable.not_not.mp (of_decide_eq_false c45)))] at kj44 ⊢; exact kj44)
            exact (by simp only [if_pos c43] at kj42 ⊢; exact kj42)
        refine e_st (ls' := [some (.ref 397), some (.int a), some (.int b), some (.int c), some (.int d), some (.int e), some (.int (b2i (if (if (x_in3 b 1 7) = true then (if b = 7 then (true) else (if b = 4 then (if (x_in3 c 1 15) = true then (if (x_in3 (F131 c h) 2 3) = true then (true) else (false)) else (false)) else (if (x_in3 c 0 3) = true then (true) else (false)))) else (false)) = true then (if b = 5 then (if (x_isItem d) = true then (if (x_in3 e 1 60) = true then (true) else (false)) else (false)) else (true)) else (false))))]) (pc' := 128) i132_126 rfl rfl rfl ?_
        refine e_ld (pc' := 130) i132_128 rfl rfl ?_
        obtain ⟨hR55, hP⟩ := hP
        refine e_reg (pc' := 148) (ls' := [some (.ref 397), some (.int a), some (.int b), some (.int c), some (.int d), some (.int e), some (.int (b2i (if (if (x_in3 b 1 7) = true then (if b = 7 then (true) else (if b = 4 then (if (x_in3 c 1 15) = true then (if (x_in3 (F131 c h) 2 3) = true then (true) else (false)) else (false)) else (if (x_in3 c 0 3) = true then (true) else (false)))) else (false)) = true then (if b = 5 then (if (x_isItem d) = true then (if (x_in3 e 1 60) = true then (true) else (false)) else (false)) else (true)) else (false))))]) (st' := [.int (if (if (if (x_in3 b 1 7) = true then (if b = 7 then (true) else (if b = 4 then (if (x_in3 c 1 15) = true then (if (x_in3 (F131 c h) 2 3) = true then (true) else (false)) else (false)) else (if (x_in3 c 0 3) = true then (true) else (false)))) else (false)) = true then (if b = 5 then (if (x_isItem d) = true then (if (x_in3 e 1 60) = true then (true) else (false)) else (false)) else (true)) else (false)) = true then (if (gI h 405 a.toNatClampNeg) = 0 then (1) else ((-6))) else ((-6)))]) (fun kj50 => ?_) ?_
        · replace hP := hR55
          refine e_b0 (pc' := 133) i132_130 rfl (fun c51 => ?_) (fun c51 => ?_)
          · replace hP := hP.2 (show ¬ (if (if (x_in3 b 1 7) = true then (if b = 7 then (true) else (if b = 4 then (if (x_in3 c 1 15) = true then (if (x_in3 (F131 c h) 2 3) = true then (true) else (false)) else (false)) else (if (x_in3 c 0 3) = true then (true) else (false)))) else (false)) = true then (if b = 5 then (if (x_isItem d) = true then (if (x_in3 e 1 60) = true then (true) else (false)) else (false)) else (true)) else (false)) = true by rw [c51]; decide)
            refine e_cn (pc' := 148) i132_146 rfl ?_
            exact (by simp only [if_neg (show ¬ (if (if (x_in3 b 1 7) = true then (if b = 7 then (true) else (if b = 4 then (if (x_in3 c 1 15) = true then (if (x_in3 (F131 c h) 2 3) = true then (true) else (false)) else (false)) else (if (x_in3 c 0 3) = true then (true) else (false)))) else (false)) = true then (if b = 5 then (if (x_isItem d) = true then (if (x_in3 e 1 60) = true then (true) else (false)) else (false)) else (true)) else (false)) = true by rw [c51]; decide)] at kj50 ⊢; exact kj50)
          · replace hP := hP.1 c51
            refine e_ld (pc' := 134) i132_133 rfl rfl ?_
            refine e_get (w := .ref 405) (pc' := 137) i132_134 rfl (x_isC (by decide) hn sh397) (x_fvR (by decide +kernel) (hL 397 8 405 lk397_8)) ?_
            refine e_ld (pc' := 138) i132_137 rfl rfl ?_
            obtain ⟨g52, hP⟩ := hP
            refine e_al (n := a.toNatClampNeg) (w := .int (gI h 405 a.toNatClampNeg)) (pc' := 139) i132_138 rfl (x_alX (a := 20) (by decide) hn sh405 (by decide) g52) rfl rfl ?_
            refine e_reg (pc' := 148) (ls' := [some (.ref 397), some (.int a), some (.int b), some (.int c), some (.int d), some (.int e), some (.int (b2i (if (if (x_in3 b 1 7) = true then (if b = 7 then (true) else (if b = 4 then (if (x_in3 c 1 15) = true then (if (x_in3 (F131 c h) 2 3) = true then (true) else (false)) else (false)) else (if (x_in3 c 0 3) = true then (true) else (false)))) else (false)) = true then (if b = 5 then (if (x_isItem d) = true then (if (x_in3 e 1 60) = true then (true) else (false)) else (false)) else (true)) else (false))))]) (st' := [.int (if (gI h 405 a.toNatClampNeg) = 0 then (1) else ((-6)))]) (fun kj53 => ?_) ?_
            · skip
              refine e_if (pc' := 142) i132_139 rfl (fun c54 => ?_) (fun c54 => ?_)
              · skip
                refine e_cn (pc' := 148) i132_146 rfl ?_
                exact (by simp only [if_neg (show ¬ ((gI h 405 a.toNatClampNeg) = 0) from (of_decide_eq_true c54))] at kj53 ⊢; exact kj53)
              · skip
                refine e_cn (pc' := 143) i132_142 rfl ?_
                refine e_go i132_143 ?_
                exact (by simp only [if_pos (show (gI h 405 a.toNatClampNeg) = 0 from (Decidable.not_not.mp (of_decide_eq_false c54)))] at kj53 ⊢; exact kj53)
            exact (by simp only [if_pos c51] at kj50 ⊢; exact kj50)
        refine e_rt i132_148 rfl ?_
        exact ⟨by unfold F132; simp only [if_pos c1, if_pos (show b = 6 from (Decidable.not_not.mp (of_decide_eq_false c2))), if_pos c29], rfl⟩
      · replace hP := hP.2 (show ¬ (x_in3 d 0 ((gI h 397 1) - 1)) = true by rw [c29]; decide)
        refine e_cn (pc' := 29) i132_28 rfl ?_
        refine e_rt i132_29 rfl ?_
        exact ⟨by unfold F132; simp only [if_pos c1, if_pos (show b = 6 from (Decidable.not_not.mp (of_decide_eq_false c2))), if_neg (show ¬ (x_in3 d 0 ((gI h 397 1) - 1)) = true by rw [c29]; decide)], rfl⟩
