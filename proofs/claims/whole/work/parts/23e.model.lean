/-! The reference's methods without loops, as functions. -/
/-- FloorTurnModel.gets(III)V -/
def G164 (a : Int32) (b : Int32) (c : Int32) (h : Hp) : Hp := if (gI h 405 b.toNatClampNeg) = 7 then (aI (aI (aI (sI h 418 (((144 * a) + b).toNatClampNeg) (gI h 429 b.toNatClampNeg)) 431 b.toNatClampNeg 1) 397 35 1) 411 c.toNatClampNeg (b2i (if a = 0 then (true) else (false)))) else (if (gI h 405 b.toNatClampNeg) = 6 then (aI (aI (sI h 418 (((144 * a) + b).toNatClampNeg) (gI h 429 b.toNatClampNeg)) 431 b.toNatClampNeg 1) 417 ((if (gI h 402 ((2 * (gI h 407 b.toNatClampNeg)).toNatClampNeg)) = c then (2 * ((144 * a) + b)) else ((2 * ((144 * a) + b)) + 1)).toNatClampNeg) 1) else (sI (aI (sI h 418 (((144 * a) + b).toNatClampNeg) (gI h 429 b.toNatClampNeg)) 431 b.toNatClampNeg 1) 412 (((144 * a) + b).toNatClampNeg) c))
theorem n_G164 (a : Int32) (b : Int32) (c : Int32) (h : Hp) : (G164 a b c h).1 = h.1 := by
  unfold G164
  (repeat' split) <;> first | (simp only [n_sI, n_aI, n_bI, n_sL, n_sR]; done) | rfl
theorem r_G164 (a : Int32) (b : Int32) (c : Int32) (h : Hp) : gR (G164 a b c h) = gR h := by
  unfold G164
  (repeat' split) <;> first | (simp only [gR_sI, gR_aI, gR_bI, gR_sL]; done) | rfl
def P164 (a : Int32) (b : Int32) (c : Int32) (h : Hp) : Prop := (vp_in b 144) ∧ ((vp_in ((144 * a) + b) 432) ∧ ((vp_in b 144) ∧ ((vp_in b 144) ∧ ((vp_in b 144) ∧ ((((gI h 405 b.toNatClampNeg) = 7) → ((vp_in c 21) ∧ ((vp_in c 21) ∧ (True)))) ∧ (¬ ((gI h 405 b.toNatClampNeg) = 7) → ((vp_in b 144) ∧ ((((gI h 405 b.toNatClampNeg) = 6) → ((vp_in b 144) ∧ ((vp_in (2 * (gI h 407 b.toNatClampNeg)) 16) ∧ ((vp_in (if (gI h 402 ((2 * (gI h 407 b.toNatClampNeg)).toNatClampNeg)) = c then (2 * ((144 * a) + b)) else ((2 * ((144 * a) + b)) + 1)) 864) ∧ ((vp_in (if (gI h 402 ((2 * (gI h 407 b.toNatClampNeg)).toNatClampNeg)) = c then (2 * ((144 * a) + b)) else ((2 * ((144 * a) + b)) + 1)) 864) ∧ (True)))))) ∧ (¬ ((gI h 405 b.toNatClampNeg) = 6) → ((vp_in ((144 * a) + b) 432) ∧ (True)))))))))))
set_option maxHeartbeats 8000000 in
set_option maxRecDepth 100000 in
theorem m164 {L : Nat} {xs : Nat → Int32} {h : Hp} {a : Int32} {b : Int32} {c : Int32} (hn : 444 ≤ h.1) (hL : LK h) (hP : P164 a b c h) : Sp L xs 164 [.ref 397, .int a, .int b, .int c] h none (G164 a b c h) := by
  unfold P164 at hP
  refine sp_of (ls := [some (.ref 397), some (.int a), some (.int b), some (.int c), none]) rfl ?_
  refine e_cn (pc' := 3) i164_0 rfl ?_
  refine e_ld (pc' := 4) i164_3 rfl rfl ?_
  refine e_ib (z := 144 * a) (pc' := 5) i164_4 rfl rfl ?_
  refine e_ld (pc' := 6) i164_5 rfl rfl ?_
  refine e_ib (z := (144 * a) + b) (pc' := 7) i164_6 rfl rfl ?_
  refine e_st (ls' := [some (.ref 397), some (.int a), some (.int b), some (.int c), some (.int ((144 * a) + b))]) (pc' := 9) i164_7 rfl rfl rfl ?_
  refine e_ld (pc' := 10) i164_9 rfl rfl ?_
  refine e_get (w := .ref 418) (pc' := 13) i164_10 rfl (x_isC (by decide) hn sh397) (x_fvR (by decide +kernel) (hL 397 22 418 lk397_22)) ?_
  refine e_ld (pc' := 15) i164_13 rfl rfl ?_
  refine e_ld (pc' := 16) i164_15 rfl rfl ?_
  refine e_get (w := .ref 429) (pc' := 19) i164_16 rfl (x_isC (by decide) hn sh397) (x_fvR (by decide +kernel) (hL 397 33 429 lk397_33)) ?_
  refine e_ld (pc' := 20) i164_19 rfl rfl ?_
  obtain ⟨g1, hP⟩ := hP
  refine e_al (n := b.toNatClampNeg) (w := .int (gI h 429 b.toNatClampNeg)) (pc' := 21) i164_20 rfl (x_alX (a := 20) (by decide) hn sh429 (by decide) g1) rfl rfl ?_
  obtain ⟨g2, hP⟩ := hP
  refine e_as (n := ((144 * a) + b).toNatClampNeg) (h' := sI h 418 (((144 * a) + b).toNatClampNeg) (gI h 429 b.toNatClampNeg)) (pc' := 22) i164_21 rfl (x_alX (a := 20) (by decide) hn sh418 (by decide) g2) rfl (by rw [show (SH 418).1 = 20 by rw [sh418]]; rfl) ?_
  have hn3 : 444 ≤ (sI h 418 (((144 * a) + b).toNatClampNeg) (gI h 429 b.toNatClampNeg)).1 := le_sI hn
  have hL3 : LK (sI h 418 (((144 * a) + b).toNatClampNeg) (gI h 429 b.toNatClampNeg)) := LK_sI hL
  refine e_ld (pc' := 23) i164_22 rfl rfl ?_
  refine e_get (w := .ref 431) (pc' := 26) i164_23 rfl (x_isC (by decide) hn3 sh397) (x_fvR (by decide +kernel) (hL3 397 37 431 lk397_37)) ?_
  refine e_ld (pc' := 27) i164_26 rfl rfl ?_
  refine e_stk (pc' := 28) i164_27 rfl rfl ?_
  obtain ⟨g4, hP⟩ := hP
  refine e_al (n := b.toNatClampNeg) (w := .int (gI h 431 b.toNatClampNeg)) (pc' := 29) i164_28 rfl (x_alX (a := 20) (by decide) hn3 sh431 (by decide) g4) rfl (congrArg Value.int (gI_osI (by decide))) ?_
  refine e_cn (pc' := 30) i164_29 rfl ?_
  refine e_ib (z := (gI h 431 b.toNatClampNeg) + 1) (pc' := 31) i164_30 rfl rfl ?_
  obtain ⟨g5, hP⟩ := hP
  refine e_as (n := b.toNatClampNeg) (h' := aI (sI h 418 (((144 * a) + b).toNatClampNeg) (gI h 429 b.toNatClampNeg)) 431 b.toNatClampNeg 1) (pc' := 32) i164_31 rfl (x_alX (a := 20) (by decide) hn3 sh431 (by decide) g5) rfl (by rw [show (SH 431).1 = 20 by rw [sh431]]; exact congrArg (fun z => some (sI (sI h 418 (((144 * a) + b).toNatClampNeg) (gI h 429 b.toNatClampNeg)) 431 b.toNatClampNeg (z + 1))) (Eq.symm (gI_osI (by decide)))) ?_
  have hn6 : 444 ≤ (aI (sI h 418 (((144 * a) + b).toNatClampNeg) (gI h 429 b.toNatClampNeg)) 431 b.toNatClampNeg 1).1 := le_aI hn3
  have hL6 : LK (aI (sI h 418 (((144 * a) + b).toNatClampNeg) (gI h 429 b.toNatClampNeg)) 431 b.toNatClampNeg 1) := LK_aI hL3
  refine e_ld (pc' := 33) i164_32 rfl rfl ?_
  refine e_get (w := .ref 405) (pc' := 36) i164_33 rfl (x_isC (by decide) hn6 sh397) (x_fvR (by decide +kernel) (hL6 397 8 405 lk397_8)) ?_
  refine e_ld (pc' := 37) i164_36 rfl rfl ?_
  obtain ⟨g7, hP⟩ := hP
  refine e_al (n := b.toNatClampNeg) (w := .int (gI h 405 b.toNatClampNeg)) (pc' := 38) i164_37 rfl (x_alX (a := 20) (by decide) hn6 sh405 (by decide) g7) rfl (congrArg Value.int (Eq.trans (gI_oaI (by decide)) (gI_osI (by decide)))) ?_
  refine e_cn (pc' := 40) i164_38 rfl ?_
  refine e_ic (pc' := 43) i164_40 rfl (fun c8 => ?_) (fun c8 => ?_)
  · replace hP := hP.2 (of_decide_eq_true c8)
    refine e_ld (pc' := 75) i164_74 rfl rfl ?_
    refine e_get (w := .ref 405) (pc' := 78) i164_75 rfl (x_isC (by decide) hn6 sh397) (x_fvR (by decide +kernel) (hL6 397 8 405 lk397_8)) ?_
    refine e_ld (pc' := 79) i164_78 rfl rfl ?_
    obtain ⟨g9, hP⟩ := hP
    refine e_al (n := b.toNatClampNeg) (w := .int (gI h 405 b.toNatClampNeg)) (pc' := 80) i164_79 rfl (x_alX (a := 20) (by decide) hn6 sh405 (by decide) g9) rfl (congrArg Value.int (Eq.trans (gI_oaI (by decide)) (gI_osI (by decide)))) ?_
    refine e_cn (pc' := 82) i164_80 rfl ?_
    refine e_ic (pc' := 85) i164_82 rfl (fun c10 => ?_) (fun c10 => ?_)
    · replace hP := hP.2 (of_decide_eq_true c10)
      refine e_ld (pc' := 128) i164_127 rfl rfl ?_
      refine e_get (w := .ref 412) (pc' := 131) i164_128 rfl (x_isC (by decide) hn6 sh397) (x_fvR (by decide +kernel) (hL6 397 16 412 lk397_16)) ?_
      refine e_ld (pc' := 133) i164_131 rfl rfl ?_
      refine e_ld (pc' := 134) i164_133 rfl rfl ?_
      obtain ⟨g11, hP⟩ := hP
      refine e_as (n := ((144 * a) + b).toNatClampNeg) (h' := sI (aI (sI h 418 (((144 * a) + b).toNatClampNeg) (gI h 429 b.toNatClampNeg)) 431 b.toNatClampNeg 1) 412 (((144 * a) + b).toNatClampNeg) c) (pc' := 135) i164_134 rfl (x_alX (a := 20) (by decide) hn6 sh412 (by decide) g11) rfl (by rw [show (SH 412).1 = 20 by rw [sh412]]; rfl) ?_
      have hn12 : 444 ≤ (sI (aI (sI h 418 (((144 * a) + b).toNatClampNeg) (gI h 429 b.toNatClampNeg)) 431 b.toNatClampNeg 1) 412 (((144 * a) + b).toNatClampNeg) c).1 := le_sI hn6
      have hL12 : LK (sI (aI (sI h 418 (((144 * a) + b).toNatClampNeg) (gI h 429 b.toNatClampNeg)) 431 b.toNatClampNeg 1) 412 (((144 * a) + b).toNatClampNeg) c) := LK_sI hL6
      refine e_rt i164_135 rfl ?_
      exact ⟨rfl, by unfold G164; simp only [if_neg (show ¬ ((gI h 405 b.toNatClampNeg) = 7) from (of_decide_eq_true c8)), if_neg (show ¬ ((gI h 405 b.toNatClampNeg) = 6) from (of_decide_eq_true c10))]⟩
    · replace hP := hP.1 (Decidable.not_not.mp (of_decide_eq_false c10))
      refine e_ld (pc' := 86) i164_85 rfl rfl ?_
      refine e_get (w := .ref 417) (pc' := 89) i164_86 rfl (x_isC (by decide) hn6 sh397) (x_fvR (by decide +kernel) (hL6 397 21 417 lk397_21)) ?_
      refine e_ld (pc' := 90) i164_89 rfl rfl ?_
      refine e_get (w := .ref 402) (pc' := 93) i164_90 rfl (x_isC (by decide) hn6 sh397) (x_fvR (by decide +kernel) (hL6 397 5 402 lk397_5)) ?_
      refine e_cn (pc' := 94) i164_93 rfl ?_
      refine e_ld (pc' := 95) i164_94 rfl rfl ?_
      refine e_get (w := .ref 407) (pc' := 98) i164_95 rfl (x_isC (by decide) hn6 sh397) (x_fvR (by decide +kernel) (hL6 397 10 407 lk397_10)) ?_
      refine e_ld (pc' := 99) i164_98 rfl rfl ?_
      obtain ⟨g13, hP⟩ := hP
      refine e_al (n := b.toNatClampNeg) (w := .int (gI h 407 b.toNatClampNeg)) (pc' := 100) i164_99 rfl (x_alX (a := 20) (by decide) hn6 sh407 (by decide) g13) rfl (congrArg Value.int (Eq.trans (gI_oaI (by decide)) (gI_osI (by decide)))) ?_
      refine e_ib (z := 2 * (gI h 407 b.toNatClampNeg)) (pc' := 101) i164_100 rfl rfl ?_
      obtain ⟨g14, hP⟩ := hP
      refine e_al (n := (2 * (gI h 407 b.toNatClampNeg)).toNatClampNeg) (w := .int (gI h 402 ((2 * (gI h 407 b.toNatClampNeg)).toNatClampNeg))) (pc' := 102) i164_101 rfl (x_alX (a := 20) (by decide) hn6 sh402 (by decide) g14) rfl (congrArg Value.int (Eq.trans (gI_oaI (by decide)) (gI_osI (by decide)))) ?_
      refine e_ld (pc' := 103) i164_102 rfl rfl ?_
      refine e_reg (pc' := 119) (ls' := [some (.ref 397), some (.int a), some (.int b), some (.int c), some (.int ((144 * a) + b))]) (st' := [.int (if (gI h 402 ((2 * (gI h 407 b.toNatClampNeg)).toNatClampNeg)) = c then (2 * ((144 * a) + b)) else ((2 * ((144 * a) + b)) + 1)), .ref 417]) (fun kj15 => ?_) ?_
      · skip
        refine e_ic (pc' := 106) i164_103 rfl (fun c16 => ?_) (fun c16 => ?_)
        · skip
          refine e_cn (pc' := 114) i164_113 rfl ?_
          refine e_ld (pc' := 116) i164_114 rfl rfl ?_
          refine e_ib (z := 2 * ((144 * a) + b)) (pc' := 117) i164_116 rfl rfl ?_
          refine e_cn (pc' := 118) i164_117 rfl ?_
          refine e_ib (z := (2 * ((144 * a) + b)) + 1) (pc' := 119) i164_118 rfl rfl ?_
          exact (by simp only [if_neg (show ¬ ((gI h 402 ((2 * (gI h 407 b.toNatClampNeg)).toNatClampNeg)) = c) from (of_decide_eq_true c16))] at kj15 ⊢; exact kj15)
        · skip
          refine e_cn (pc' := 107) i164_106 rfl ?_
          refine e_ld (pc' := 109) i164_107 rfl rfl ?_
          refine e_ib (z := 2 * ((144 * a) + b)) (pc' := 110) i164_109 rfl rfl ?_
          refine e_go i164_110 ?_
          exact (by simp only [if_pos (show (gI h 402 ((2 * (gI h 407 b.toNatClampNeg)).toNatClampNeg)) = c from (Decidable.not_not.mp (of_decide_eq_false c16)))] at kj15 ⊢; exact kj15)
      refine e_stk (pc' := 120) i164_119 rfl rfl ?_
      obtain ⟨g17, hP⟩ := hP
      refine e_al (n := (if (gI h 402 ((2 * (gI h 407 b.toNatClampNeg)).toNatClampNeg)) = c then (2 * ((144 * a) + b)) else ((2 * ((144 * a) + b)) + 1)).toNatClampNeg) (w := .int (gI h 417 ((if (gI h 402 ((2 * (gI h 407 b.toNatClampNeg)).toNatClampNeg)) = c then (2 * ((144 * a) + b)) else ((2 * ((144 * a) + b)) + 1)).toNatClampNeg))) (pc' := 121) i164_120 rfl (x_alX (a := 20) (by decide) hn6 sh417 (by decide) g17) rfl (congrArg Value.int (Eq.trans (gI_oaI (by decide)) (gI_osI (by decide)))) ?_
      refine e_cn (pc' := 122) i164_121 rfl ?_
      refine e_ib (z := (gI h 417 ((if (gI h 402 ((2 * (gI h 407 b.toNatClampNeg)).toNatClampNeg)) = c then (2 * ((144 * a) + b)) else ((2 * ((144 * a) + b)) + 1)).toNatClampNeg)) + 1) (pc' := 123) i164_122 rfl rfl ?_
      obtain ⟨g18, hP⟩ := hP
      refine e_as (n := (if (gI h 402 ((2 * (gI h 407 b.toNatClampNeg)).toNatClampNeg)) = c then (2 * ((144 * a) + b)) else ((2 * ((144 * a) + b)) + 1)).toNatClampNeg) (h' := aI (aI (sI h 418 (((144 * a) + b).toNatClampNeg) (gI h 429 b.toNatClampNeg)) 431 b.toNatClampNeg 1) 417 ((if (gI h 402 ((2 * (gI h 407 b.toNatClampNeg)).toNatClampNeg)) = c then (2 * ((144 * a) + b)) else ((2 * ((144 * a) + b)) + 1)).toNatClampNeg) 1) (pc' := 124) i164_123 rfl (x_alX (a := 20) (by decide) hn6 sh417 (by decide) g18) rfl (by rw [show (SH 417).1 = 20 by rw [sh417]]; exact congrArg (fun z => some (sI (aI (sI h 418 (((144 * a) + b).toNatClampNeg) (gI h 429 b.toNatClampNeg)) 431 b.toNatClampNeg 1) 417 ((if (gI h 402 ((2 * (gI h 407 b.toNatClampNeg)).toNatClampNeg)) = c then (2 * ((144 * a) + b)) else ((2 * ((144 * a) + b)) + 1)).toNatClampNeg) (z + 1))) (Eq.symm (Eq.trans (gI_oaI (by decide)) (gI_osI (by decide))))) ?_
      have hn19 : 444 ≤ (aI (aI (sI h 418 (((144 * a) + b).toNatClampNeg) (gI h 429 b.toNatClampNeg)) 431 b.toNatClampNeg 1) 417 ((if (gI h 402 ((2 * (gI h 407 b.toNatClampNeg)).toNatClampNeg)) = c then (2 * ((144 * a) + b)) else ((2 * ((144 * a) + b)) + 1)).toNatClampNeg) 1).1 := le_aI hn6
      have hL19 : LK (aI (aI (sI h 418 (((144 * a) + b).toNatClampNeg) (gI h 429 b.toNatClampNeg)) 431 b.toNatClampNeg 1) 417 ((if (gI h 402 ((2 * (gI h 407 b.toNatClampNeg)).toNatClampNeg)) = c then (2 * ((144 * a) + b)) else ((2 * ((144 * a) + b)) + 1)).toNatClampNeg) 1) := LK_aI hL6
      refine e_go i164_124 ?_
      refine e_rt i164_135 rfl ?_
      exact ⟨rfl, by unfold G164; simp only [if_neg (show ¬ ((gI h 405 b.toNatClampNeg) = 7) from (of_decide_eq_true c8)), if_pos (show (gI h 405 b.toNatClampNeg) = 6 from (Decidable.not_not.mp (of_decide_eq_false c10)))]⟩
  · replace hP := hP.1 (Decidable.not_not.mp (of_decide_eq_false c8))
    refine e_ld (pc' := 44) i164_43 rfl rfl ?_
    refine e_stk (pc' := 45) i164_44 rfl rfl ?_
    refine e_get (w := .int (gI h 397 35)) (pc' := 48) i164_45 rfl (x_isC (by decide) hn6 sh397) (congrArg Value.int (Eq.trans (gI_oaI (by decide)) (gI_osI (by decide)))) ?_
    refine e_cn (pc' := 49) i164_48 rfl ?_
    refine e_ib (z := (gI h 397 35) + 1) (pc' := 50) i164_49 rfl rfl ?_
    refine e_put (h' := aI (aI (sI h 418 (((144 * a) + b).toNatClampNeg) (gI h 429 b.toNatClampNeg)) 431 b.toNatClampNeg 1) 397 35 1) (pc' := 53) i164_50 rfl (x_isC (by decide) hn6 sh397) (congrArg (fun z => some (sI (aI (sI h 418 (((144 * a) + b).toNatClampNeg) (gI h 429 b.toNatClampNeg)) 431 b.toNatClampNeg 1) 397 35 (z + 1))) (Eq.symm (Eq.trans (gI_oaI (by decide)) (gI_osI (by decide))))) ?_
    have hn20 : 444 ≤ (aI (aI (sI h 418 (((144 * a) + b).toNatClampNeg) (gI h 429 b.toNatClampNeg)) 431 b.toNatClampNeg 1) 397 35 1).1 := le_aI hn6
    have hL20 : LK (aI (aI (sI h 418 (((144 * a) + b).toNatClampNeg) (gI h 429 b.toNatClampNeg)) 431 b.toNatClampNeg 1) 397 35 1) := LK_aI hL6
    refine e_ld (pc' := 54) i164_53 rfl rfl ?_
    refine e_get (w := .ref 411) (pc' := 57) i164_54 rfl (x_isC (by decide) hn20 sh397) (x_fvR (by decide +kernel) (hL20 397 15 411 lk397_15)) ?_
    refine e_ld (pc' := 58) i164_57 rfl rfl ?_
    refine e_stk (pc' := 59) i164_58 rfl rfl ?_
    obtain ⟨g21, hP⟩ := hP
    refine e_al (n := c.toNatClampNeg) (w := .int (gI h 411 c.toNatClampNeg)) (pc' := 60) i164_59 rfl (x_alX (a := 20) (by decide) hn20 sh411 (by decide) g21) rfl (congrArg Value.int (Eq.trans (gI_oaI (by decide)) (Eq.trans (gI_oaI (by decide)) (gI_osI (by decide))))) ?_
    refine e_ld (pc' := 61) i164_60 rfl rfl ?_
    refine e_reg (pc' := 69) (ls' := [some (.ref 397), some (.int a), some (.int b), some (.int c), some (.int ((144 * a) + b))]) (st' := [.int (b2i (if a = 0 then (true) else (false))), .int (gI h 411 c.toNatClampNeg), .int c, .ref 411]) (fun kj22 => ?_) ?_
    · skip
      refine e_if (pc' := 64) i164_61 rfl (fun c23 => ?_) (fun c23 => ?_)
      · skip
        refine e_cn (pc' := 69) i164_68 rfl ?_
        exact (by simp only [if_neg (show ¬ (a = 0) from (of_decide_eq_true c23))] at kj22 ⊢; exact kj22)
      · skip
        refine e_cn (pc' := 65) i164_64 rfl ?_
        refine e_go i164_65 ?_
        exact (by simp only [if_pos (show a = 0 from (Decidable.not_not.mp (of_decide_eq_false c23)))] at kj22 ⊢; exact kj22)
    refine e_ib (z := (gI h 411 c.toNatClampNeg) + (b2i (if a = 0 then (true) else (false)))) (pc' := 70) i164_69 rfl rfl ?_
    obtain ⟨g24, hP⟩ := hP
    refine e_as (n := c.toNatClampNeg) (h' := aI (aI (aI (sI h 418 (((144 * a) + b).toNatClampNeg) (gI h 429 b.toNatClampNeg)) 431 b.toNatClampNeg 1) 397 35 1) 411 c.toNatClampNeg (b2i (if a = 0 then (true) else (false)))) (pc' := 71) i164_70 rfl (x_alX (a := 20) (by decide) hn20 sh411 (by decide) g24) rfl (by rw [show (SH 411).1 = 20 by rw [sh411]]; exact congrArg (fun z => some (sI (aI (aI (sI h 418 (((144 * a) + b).toNatClampNeg) (gI h 429 b.toNatClampNeg)) 431 b.toNatClampNeg 1) 397 35 1) 411 c.toNatClampNeg (z + (b2i (if a = 0 then (true) else (false)))))) (Eq.symm (Eq.trans (gI_oaI (by decide)) (Eq.trans (gI_oaI (by decide)) (gI_osI (by decide)))))) ?_
    have hn25 : 444 ≤ (aI (aI (aI (sI h 418 (((144 * a) + b).toNatClampNeg) (gI h 429 b.toNatClampNeg)) 431 b.toNatClampNeg 1) 397 35 1) 411 c.toNatClampNeg (b2i (if a = 0 then (true) else (false)))).1 := le_aI hn20
    have hL25 : LK (aI (aI (aI (sI h 418 (((144 * a) + b).toNatClampNeg) (gI h 429 b.toNatClampNeg)) 431 b.toNatClampNeg 1) 397 35 1) 411 c.toNatClampNeg (b2i (if a = 0 then (true) else (false)))) := LK_aI hL20
    refine e_go i164_71 ?_
    refine e_rt i164_135 rfl ?_
    exact ⟨rfl, by unfold G164; simp only [if_pos (show (gI h 405 b.toNatClampNeg) = 7 from (Decidable.not_not.mp (of_decide_eq_false c8)))]⟩
