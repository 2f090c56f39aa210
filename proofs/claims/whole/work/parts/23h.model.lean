/-! The reference's methods without loops, as functions. -/
/-- FloorTurnModel.starts(II)V -/
def G155 (a : Int32) (b : Int32) (h : Hp) : Hp := if (gI h 416 (((144 * a) + b).toNatClampNeg)) = 0 then (if (gI h 399 ((gI h 407 b.toNatClampNeg).toNatClampNeg)) < (gI h 414 (((144 * a) + b).toNatClampNeg)) then (h) else (if (gI h 417 ((2 * ((144 * a) + b)).toNatClampNeg)) < (gI h 403 ((2 * (gI h 407 b.toNatClampNeg)).toNatClampNeg)) then (h) else (if (gI h 417 (((2 * ((144 * a) + b)) + 1).toNatClampNeg)) < (gI h 403 (((2 * (gI h 407 b.toNatClampNeg)) + 1).toNatClampNeg)) then (h) else (sI (sI (bI (bI h 417 ((2 * ((144 * a) + b)).toNatClampNeg) (gI h 403 ((2 * (gI h 407 b.toNatClampNeg)).toNatClampNeg))) 417 (((2 * ((144 * a) + b)) + 1).toNatClampNeg) (gI h 403 (((2 * (gI h 407 b.toNatClampNeg)) + 1).toNatClampNeg))) 416 (((144 * a) + b).toNatClampNeg) 1) 415 (((144 * a) + b).toNatClampNeg) 0)))) else (if (gI (aI h 415 (((144 * a) + b).toNatClampNeg) 1) 415 (((144 * a) + b).toNatClampNeg)) = (gI h 401 ((gI h 407 b.toNatClampNeg).toNatClampNeg)) then (if (gI (sI (aI (aI h 415 (((144 * a) + b).toNatClampNeg) 1) 414 (((144 * a) + b).toNatClampNeg) (gI h 399 ((gI h 407 b.toNatClampNeg).toNatClampNeg))) 416 (((144 * a) + b).toNatClampNeg) 0) 416 (((144 * a) + b).toNatClampNeg)) = 0 then (if (gI h 399 ((gI h 407 b.toNatClampNeg).toNatClampNeg)) < (gI (aI (aI h 415 (((144 * a) + b).toNatClampNeg) 1) 414 (((144 * a) + b).toNatClampNeg) (gI h 399 ((gI h 407 b.toNatClampNeg).toNatClampNeg))) 414 (((144 * a) + b).toNatClampNeg)) then (aI (sI (sI (aI (aI h 415 (((144 * a) + b).toNatClampNeg) 1) 414 (((144 * a) + b).toNatClampNeg) (gI h 399 ((gI h 407 b.toNatClampNeg).toNatClampNeg))) 416 (((144 * a) + b).toNatClampNeg) 0) 415 (((144 * a) + b).toNatClampNeg) 0) 433 b.toNatClampNeg 1) else (if (gI h 417 ((2 * ((144 * a) + b)).toNatClampNeg)) < (gI h 403 ((2 * (gI h 407 b.toNatClampNeg)).toNatClampNeg)) then (aI (sI (sI (aI (aI h 415 (((144 * a) + b).toNatClampNeg) 1) 414 (((144 * a) + b).toNatClampNeg) (gI h 399 ((gI h 407 b.toNatClampNeg).toNatClampNeg))) 416 (((144 * a) + b).toNatClampNeg) 0) 415 (((144 * a) + b).toNatClampNeg) 0) 433 b.toNatClampNeg 1) else (if (gI h 417 (((2 * ((144 * a) + b)) + 1).toNatClampNeg)) < (gI h 403 (((2 * (gI h 407 b.toNatClampNeg)) + 1).toNatClampNeg)) then (aI (sI (sI (aI (aI h 415 (((144 * a) + b).toNatClampNeg) 1) 414 (((144 * a) + b).toNatClampNeg) (gI h 399 ((gI h 407 b.toNatClampNeg).toNatClampNeg))) 416 (((144 * a) + b).toNatClampNeg) 0) 415 (((144 * a) + b).toNatClampNeg) 0) 433 b.toNatClampNeg 1) else (sI (sI (bI (bI (aI (sI (sI (aI (aI h 415 (((144 * a) + b).toNatClampNeg) 1) 414 (((144 * a) + b).toNatClampNeg) (gI h 399 ((gI h 407 b.toNatClampNeg).toNatClampNeg))) 416 (((144 * a) + b).toNatClampNeg) 0) 415 (((144 * a) + b).toNatClampNeg) 0) 433 b.toNatClampNeg 1) 417 ((2 * ((144 * a) + b)).toNatClampNeg) (gI h 403 ((2 * (gI h 407 b.toNatClampNeg)).toNatClampNeg))) 417 (((2 * ((144 * a) + b)) + 1).toNatClampNeg) (gI h 403 (((2 * (gI h 407 b.toNatClampNeg)) + 1).toNatClampNeg))) 416 (((144 * a) + b).toNatClampNeg) 1) 415 (((144 * a) + b).toNatClampNeg) 0)))) else (aI (sI (sI (aI (aI h 415 (((144 * a) + b).toNatClampNeg) 1) 414 (((144 * a) + b).toNatClampNeg) (gI h 399 ((gI h 407 b.toNatClampNeg).toNatClampNeg))) 416 (((144 * a) + b).toNatClampNeg) 0) 415 (((144 * a) + b).toNatClampNeg) 0) 433 b.toNatClampNeg 1)) else (aI h 415 (((144 * a) + b).toNatClampNeg) 1))
theorem n_G155 (a : Int32) (b : Int32) (h : Hp) : (G155 a b h).1 = h.1 := by
  unfold G155
  (repeat' split) <;> first | (simp only [n_sI, n_aI, n_bI, n_sL, n_sR]; done) | rfl
theorem r_G155 (a : Int32) (b : Int32) (h : Hp) : gR (G155 a b h) = gR h := by
  unfold G155
  (repeat' split) <;> first | (simp only [gR_sI, gR_aI, gR_bI, gR_sL]; done) | rfl
def P155 (a : Int32) (b : Int32) (h : Hp) : Prop := (vp_in b 144) ∧ ((vp_in ((144 * a) + b) 432) ∧ ((((gI h 416 (((144 * a) + b).toNatClampNeg)) = 0) → ((vp_in ((144 * a) + b) 432) ∧ ((vp_in ((144 * a) + b) 432) ∧ ((vp_in (gI h 407 b.toNatClampNeg) 8) ∧ ((((gI h 399 ((gI h 407 b.toNatClampNeg).toNatClampNeg)) < (gI h 414 (((144 * a) + b).toNatClampNeg))) → (True)) ∧ (¬ ((gI h 399 ((gI h 407 b.toNatClampNeg).toNatClampNeg)) < (gI h 414 (((144 * a) + b).toNatClampNeg))) → ((vp_in (2 * ((144 * a) + b)) 864) ∧ ((vp_in (2 * (gI h 407 b.toNatClampNeg)) 16) ∧ ((((gI h 417 ((2 * ((144 * a) + b)).toNatClampNeg)) < (gI h 403 ((2 * (gI h 407 b.toNatClampNeg)).toNatClampNeg))) → (True)) ∧ (¬ ((gI h 417 ((2 * ((144 * a) + b)).toNatClampNeg)) < (gI h 403 ((2 * (gI h 407 b.toNatClampNeg)).toNatClampNeg))) → ((vp_in ((2 * ((144 * a) + b)) + 1) 864) ∧ ((vp_in ((2 * (gI h 407 b.toNatClampNeg)) + 1) 16) ∧ ((((gI h 417 (((2 * ((144 * a) + b)) + 1).toNatClampNeg)) < (gI h 403 (((2 * (gI h 407 b.toNatClampNeg)) + 1).toNatClampNeg))) → (True)) ∧ (¬ ((gI h 417 (((2 * ((144 * a) + b)) + 1).toNatClampNeg)) < (gI h 403 (((2 * (gI h 407 b.toNatClampNeg)) + 1).toNatClampNeg))) → ((vp_in (2 * ((144 * a) + b)) 864) ∧ ((vp_in (2 * (gI h 407 b.toNatClampNeg)) 16) ∧ ((vp_in (2 * ((144 * a) + b)) 864) ∧ ((vp_in ((2 * ((144 * a) + b)) + 1) 864) ∧ ((vp_in ((2 * (gI h 407 b.toNatClampNeg)) + 1) 16) ∧ ((vp_in ((2 * ((144 * a) + b)) + 1) 864) ∧ ((vp_in ((144 * a) + b) 432) ∧ ((vp_in ((144 * a) + b) 432) ∧ (True))))))))))))))))))))))) ∧ (¬ ((gI h 416 (((144 * a) + b).toNatClampNeg)) = 0) → ((vp_in ((144 * a) + b) 432) ∧ ((vp_in ((144 * a) + b) 432) ∧ ((vp_in ((144 * a) + b) 432) ∧ ((vp_in (gI h 407 b.toNatClampNeg) 8) ∧ ((((gI (aI h 415 (((144 * a) + b).toNatClampNeg) 1) 415 (((144 * a) + b).toNatClampNeg)) = (gI h 401 ((gI h 407 b.toNatClampNeg).toNatClampNeg))) → ((vp_in ((144 * a) + b) 432) ∧ ((vp_in (gI h 407 b.toNatClampNeg) 8) ∧ ((vp_in ((144 * a) + b) 432) ∧ ((vp_in ((144 * a) + b) 432) ∧ ((vp_in ((144 * a) + b) 432) ∧ ((vp_in b 144) ∧ ((vp_in b 144) ∧ ((vp_in ((144 * a) + b) 432) ∧ ((((gI (sI (aI (aI h 415 (((144 * a) + b).toNatClampNeg) 1) 414 (((144 * a) + b).toNatClampNeg) (gI h 399 ((gI h 407 b.toNatClampNeg).toNatClampNeg))) 416 (((144 * a) + b).toNatClampNeg) 0) 416 (((144 * a) + b).toNatClampNeg)) = 0) → ((vp_in ((144 * a) + b) 432) ∧ ((vp_in (gI h 407 b.toNatClampNeg) 8) ∧ ((((gI h 399 ((gI h 407 b.toNatClampNeg).toNatClampNeg)) < (gI (aI (aI h 415 (((144 * a) + b).toNatClampNeg) 1) 414 (((144 * a) + b).toNatClampNeg) (gI h 399 ((gI h 407 b.toNatClampNeg).toNatClampNeg))) 414 (((144 * a) + b).toNatClampNeg))) → (True)) ∧ (¬ ((gI h 399 ((gI h 407 b.toNatClampNeg).toNatClampNeg)) < (gI (aI (aI h 415 (((144 * a) + b).toNatClampNeg) 1) 414 (((144 * a) + b).toNatClampNeg) (gI h 399 ((gI h 407 b.toNatClampNeg).toNatClampNeg))) 414 (((144 * a) + b).toNatClampNeg))) → ((vp_in (2 * ((144 * a) + b)) 864) ∧ ((vp_in (2 * (gI h 407 b.toNatClampNeg)) 16) ∧ ((((gI h 417 ((2 * ((144 * a) + b)).toNatClampNeg)) < (gI h 403 ((2 * (gI h 407 b.toNatClampNeg)).toNatClampNeg))) → (True)) ∧ (¬ ((gI h 417 ((2 * ((144 * a) + b)).toNatClampNeg)) < (gI h 403 ((2 * (gI h 407 b.toNatClampNeg)).toNatClampNeg))) → ((vp_in ((2 * ((144 * a) + b)) + 1) 864) ∧ ((vp_in ((2 * (gI h 407 b.toNatClampNeg)) + 1) 16) ∧ ((((gI h 417 (((2 * ((144 * a) + b)) + 1).toNatClampNeg)) < (gI h 403 (((2 * (gI h 407 b.toNatClampNeg)) + 1).toNatClampNeg))) → (True)) ∧ (¬ ((gI h 417 (((2 * ((144 * a) + b)) + 1).toNatClampNeg)) < (gI h 403 (((2 * (gI h 407 b.toNatClampNeg)) + 1).toNatClampNeg))) → ((vp_in (2 * ((144 * a) + b)) 864) ∧ ((vp_in (2 * (gI h 407 b.toNatClampNeg)) 16) ∧ ((vp_in (2 * ((144 * a) + b)) 864) ∧ ((vp_in ((2 * ((144 * a) + b)) + 1) 864) ∧ ((vp_in ((2 * (gI h 407 b.toNatClampNeg)) + 1) 16) ∧ ((vp_in ((2 * ((144 * a) + b)) + 1) 864) ∧ ((vp_in ((144 * a) + b) 432) ∧ ((vp_in ((144 * a) + b) 432) ∧ (True)))))))))))))))))))))) ∧ (¬ ((gI (sI (aI (aI h 415 (((144 * a) + b).toNatClampNeg) 1) 414 (((144 * a) + b).toNatClampNeg) (gI h 399 ((gI h 407 b.toNatClampNeg).toNatClampNeg))) 416 (((144 * a) + b).toNatClampNeg) 0) 416 (((144 * a) + b).toNatClampNeg)) = 0) → (True)))))))))))) ∧ (¬ ((gI (aI h 415 (((144 * a) + b).toNatClampNeg) 1) 415 (((144 * a) + b).toNatClampNeg)) = (gI h 401 ((gI h 407 b.toNatClampNeg).toNatClampNeg))) → ((vp_in ((144 * a) + b) 432) ∧ (True)))))))))))
set_option maxHeartbeats 8000000 in
set_option maxRecDepth 100000 in
theorem m155 {L : Nat} {xs : Nat → Int32} {h : Hp} {a : Int32} {b : Int32} (hn : 444 ≤ h.1) (hL : LK h) (hP : P155 a b h) : Sp L xs 155 [.ref 397, .int a, .int b] h none (G155 a b h) := by
  unfold P155 at hP
  refine sp_of (ls := [some (.ref 397), some (.int a), some (.int b), none, none]) rfl ?_
  refine e_cn (pc' := 3) i155_0 rfl ?_
  refine e_ld (pc' := 4) i155_3 rfl rfl ?_
  refine e_ib (z := 144 * a) (pc' := 5) i155_4 rfl rfl ?_
  refine e_ld (pc' := 6) i155_5 rfl rfl ?_
  refine e_ib (z := (144 * a) + b) (pc' := 7) i155_6 rfl rfl ?_
  refine e_st (ls' := [some (.ref 397), some (.int a), some (.int b), some (.int ((144 * a) + b)), none]) (pc' := 8) i155_7 rfl rfl rfl ?_
  refine e_ld (pc' := 9) i155_8 rfl rfl ?_
  refine e_get (w := .ref 407) (pc' := 12) i155_9 rfl (x_isC (by decide) hn sh397) (x_fvR (by decide +kernel) (hL 397 10 407 lk397_10)) ?_
  refine e_ld (pc' := 13) i155_12 rfl rfl ?_
  obtain ⟨g1, hP⟩ := hP
  refine e_al (n := b.toNatClampNeg) (w := .int (gI h 407 b.toNatClampNeg)) (pc' := 14) i155_13 rfl (x_alX (a := 20) (by decide) hn sh407 (by decide) g1) rfl rfl ?_
  refine e_st (ls' := [some (.ref 397), some (.int a), some (.int b), some (.int ((144 * a) + b)), some (.int (gI h 407 b.toNatClampNeg))]) (pc' := 16) i155_14 rfl rfl rfl ?_
  refine e_ld (pc' := 17) i155_16 rfl rfl ?_
  refine e_get (w := .ref 416) (pc' := 20) i155_17 rfl (x_isC (by decide) hn sh397) (x_fvR (by decide +kernel) (hL 397 20 416 lk397_20)) ?_
  refine e_ld (pc' := 21) i155_20 rfl rfl ?_
  obtain ⟨g2, hP⟩ := hP
  refine e_al (n := ((144 * a) + b).toNatClampNeg) (w := .int (gI h 416 (((144 * a) + b).toNatClampNeg))) (pc' := 22) i155_21 rfl (x_alX (a := 22) (by decide) hn sh416 (by decide) g2) rfl rfl ?_
  refine e_if (pc' := 25) i155_22 rfl (fun c3 => ?_) (fun c3 => ?_)
  · replace hP := hP.1 (of_decide_eq_true c3)
    refine e_ld (pc' := 92) i155_91 rfl rfl ?_
    refine e_get (w := .ref 416) (pc' := 95) i155_92 rfl (x_isC (by decide) hn sh397) (x_fvR (by decide +kernel) (hL 397 20 416 lk397_20)) ?_
    refine e_ld (pc' := 96) i155_95 rfl rfl ?_
    obtain ⟨g4, hP⟩ := hP
    refine e_al (n := ((144 * a) + b).toNatClampNeg) (w := .int (gI h 416 (((144 * a) + b).toNatClampNeg))) (pc' := 97) i155_96 rfl (x_alX (a := 22) (by decide) hn sh416 (by decide) g4) rfl rfl ?_
    refine e_ifF (pc' := 100) i155_97 rfl (decide_eq_false (not_not_intro (of_decide_eq_true c3))) ?_
    refine e_ld (pc' := 101) i155_100 rfl rfl ?_
    refine e_get (w := .ref 414) (pc' := 104) i155_101 rfl (x_isC (by decide) hn sh397) (x_fvR (by decide +kernel) (hL 397 18 414 lk397_18)) ?_
    refine e_ld (pc' := 105) i155_104 rfl rfl ?_
    obtain ⟨g6, hP⟩ := hP
    refine e_al (n := ((144 * a) + b).toNatClampNeg) (w := .int (gI h 414 (((144 * a) + b).toNatClampNeg))) (pc' := 106) i155_105 rfl (x_alX (a := 20) (by decide) hn sh414 (by decide) g6) rfl rfl ?_
    refine e_ld (pc' := 107) i155_106 rfl rfl ?_
    refine e_get (w := .ref 399) (pc' := 110) i155_107 rfl (x_isC (by decide) hn sh397) (x_fvR (by decide +kernel) (hL 397 2 399 lk397_2)) ?_
    refine e_ld (pc' := 112) i155_110 rfl rfl ?_
    obtain ⟨g7, hP⟩ := hP
    refine e_al (n := (gI h 407 b.toNatClampNeg).toNatClampNeg) (w := .int (gI h 399 ((gI h 407 b.toNatClampNeg).toNatClampNeg))) (pc' := 113) i155_112 rfl (x_alX (a := 20) (by decide) hn sh399 (by decide) g7) rfl rfl ?_
    refine e_ic (pc' := 116) i155_113 rfl (fun c8 => ?_) (fun c8 => ?_)
    · replace hP := hP.1 (of_decide_eq_true c8)
      refine e_rt i155_218 rfl ?_
      exact ⟨rfl, by unfold G155; simp only [if_pos (show (gI h 416 (((144 * a) + b).toNatClampNeg)) = 0 from (of_decide_eq_true c3)), if_pos (show (gI h 399 ((gI h 407 b.toNatClampNeg).toNatClampNeg)) < (gI h 414 (((144 * a) + b).toNatClampNeg)) from (of_decide_eq_true c8))]⟩
    · replace hP := hP.2 (of_decide_eq_false c8)
      refine e_ld (pc' := 117) i155_116 rfl rfl ?_
      refine e_get (w := .ref 417) (pc' := 120) i155_117 rfl (x_isC (by decide) hn sh397) (x_fvR (by decide +kernel) (hL 397 21 417 lk397_21)) ?_
      refine e_cn (pc' := 121) i155_120 rfl ?_
      refine e_ld (pc' := 122) i155_121 rfl rfl ?_
      refine e_ib (z := 2 * ((144 * a) + b)) (pc' := 123) i155_122 rfl rfl ?_
      obtain ⟨g9, hP⟩ := hP
      refine e_al (n := (2 * ((144 * a) + b)).toNatClampNeg) (w := .int (gI h 417 ((2 * ((144 * a) + b)).toNatClampNeg))) (pc' := 124) i155_123 rfl (x_alX (a := 20) (by decide) hn sh417 (by decide) g9) rfl rfl ?_
      refine e_ld (pc' := 125) i155_124 rfl rfl ?_
      refine e_get (w := .ref 403) (pc' := 128) i155_125 rfl (x_isC (by decide) hn sh397) (x_fvR (by decide +kernel) (hL 397 6 403 lk397_6)) ?_
      refine e_cn (pc' := 129) i155_128 rfl ?_
      refine e_ld (pc' := 131) i155_129 rfl rfl ?_
      refine e_ib (z := 2 * (gI h 407 b.toNatClampNeg)) (pc' := 132) i155_131 rfl rfl ?_
      obtain ⟨g10, hP⟩ := hP
      refine e_al (n := (2 * (gI h 407 b.toNatClampNeg)).toNatClampNeg) (w := .int (gI h 403 ((2 * (gI h 407 b.toNatClampNeg)).toNatClampNeg))) (pc' := 133) i155_132 rfl (x_alX (a := 20) (by decide) hn sh403 (by decide) g10) rfl rfl ?_
      refine e_ic (pc' := 136) i155_133 rfl (fun c11 => ?_) (fun c11 => ?_)
      · replace hP := hP.1 (of_decide_eq_true c11)
        refine e_rt i155_218 rfl ?_
        exact ⟨rfl, by unfold G155; simp only [if_pos (show (gI h 416 (((144 * a) + b).toNatClampNeg)) = 0 from (of_decide_eq_true c3)), if_neg (show ¬ ((gI h 399 ((gI h 407 b.toNatClampNeg).toNatClampNeg)) < (gI h 414 (((144 * a) + b).toNatClampNeg))) from (of_decide_eq_false c8)), if_pos (show (gI h 417 ((2 * ((144 * a) + b)).toNatClampNeg)) < (gI h 403 ((2 * (gI h 407 b.toNatClampNeg)).toNatClampNeg)) from (of_decide_eq_true c11))]⟩
      · replace hP := hP.2 (of_decide_eq_false c11)
        refine e_ld (pc' := 137) i155_136 rfl rfl ?_
        refine e_get (w := .ref 417) (pc' := 140) i155_137 rfl (x_isC (by decide) hn sh397) (x_fvR (by decide +kernel) (hL 397 21 417 lk397_21)) ?_
        refine e_cn (pc' := 141) i155_140 rfl ?_
        refine e_ld (pc' := 142) i155_141 rfl rfl ?_
        refine e_ib (z := 2 * ((144 * a) + b)) (pc' := 143) i155_142 rfl rfl ?_
        refine e_cn (pc' := 144) i155_143 rfl ?_
        refine e_ib (z := (2 * ((144 * a) + b)) + 1) (pc' := 145) i155_144 rfl rfl ?_
        obtain ⟨g12, hP⟩ := hP
        refine e_al (n := ((2 * ((144 * a) + b)) + 1).toNatClampNeg) (w := .int (gI h 417 (((2 * ((144 * a) + b)) + 1).toNatClampNeg))) (pc' := 146) i155_145 rfl (x_alX (a := 20) (by decide) hn sh417 (by decide) g12) rfl rfl ?_
        refine e_ld (pc' := 147) i155_146 rfl rfl ?_
        refine e_get (w := .ref 403) (pc' := 150) i155_147 rfl (x_isC (by decide) hn sh397) (x_fvR (by decide +kernel) (hL 397 6 403 lk397_6)) ?_
        refine e_cn (pc' := 151) i155_150 rfl ?_
        refine e_ld (pc' := 153) i155_151 rfl rfl ?_
        refine e_ib (z := 2 * (gI h 407 b.toNatClampNeg)) (pc' := 154) i155_153 rfl rfl ?_
        refine e_cn (pc' := 155) i155_154 rfl ?_
        refine e_ib (z := (2 * (gI h 407 b.toNatClampNeg)) + 1) (pc' := 156) i155_155 rfl rfl ?_
        obtain ⟨g13, hP⟩ := hP
        refine e_al (n := ((2 * (gI h 407 b.toNatClampNeg)) + 1).toNatClampNeg) (w := .int (gI h 403 (((2 * (gI h 407 b.toNatClampNeg)) + 1).toNatClampNeg))) (pc' := 157) i155_156 rfl (x_alX (a := 20) (by decide) hn sh403 (by decide) g13) rfl rfl ?_
        refine e_ic (pc' := 160) i155_157 rfl (fun c14 => ?_) (fun c14 => ?_)
        · replace hP := hP.1 (of_decide_eq_true c14)
          refine e_rt i155_218 rfl ?_
          exact ⟨rfl, by unfold G155; simp only [if_pos (show (gI h 416 (((144 * a) + b).toNatClampNeg)) = 0 from (of_decide_eq_true c3)), if_neg (show ¬ ((gI h 399 ((gI h 407 b.toNatClampNeg).toNatClampNeg)) < (gI h 414 (((144 * a) + b).toNatClampNeg))) from (of_decide_eq_false c8)), if_neg (show ¬ ((gI h 417 ((2 * ((144 * a) + b)).toNatClampNeg)) < (gI h 403 ((2 * (gI h 407 b.toNatClampNeg)).toNatClampNeg))) from (of_decide_eq_false c11)), if_pos (show (gI h 417 (((2 * ((144 * a) + b)) + 1).toNatClampNeg)) < (gI h 403 (((2 * (gI h 407 b.toNatClampNeg)) + 1).toNatClampNeg)) from (of_decide_eq_true c14))]⟩
        · replace hP := hP.2 (of_decide_eq_false c14)
          refine e_ld (pc' := 161) i155_160 rfl rfl ?_
          refine e_get (w := .ref 417) (pc' := 164) i155_161 rfl (x_isC (by decide) hn sh397) (x_fvR (by decide +kernel) (hL 397 21 417 lk397_21)) ?_
          refine e_cn (pc' := 165) i155_164 rfl ?_
          refine e_ld (pc' := 166) i155_165 rfl rfl ?_
          refine e_ib (z := 2 * ((144 * a) + b)) (pc' := 167) i155_166 rfl rfl ?_
          refine e_stk (pc' := 168) i155_167 rfl rfl ?_
          obtain ⟨g15, hP⟩ := hP
          refine e_al (n := (2 * ((144 * a) + b)).toNatClampNeg) (w := .int (gI h 417 ((2 * ((144 * a) + b)).toNatClampNeg))) (pc' := 169) i155_168 rfl (x_alX (a := 20) (by decide) hn sh417 (by decide) g15) rfl rfl ?_
          refine e_ld (pc' := 170) i155_169 rfl rfl ?_
          refine e_get (w := .ref 403) (pc' := 173) i155_170 rfl (x_isC (by decide) hn sh397) (x_fvR (by decide +kernel) (hL 397 6 403 lk397_6)) ?_
          refine e_cn (pc' := 174) i155_173 rfl ?_
          refine e_ld (pc' := 176) i155_174 rfl rfl ?_
          refine e_ib (z := 2 * (gI h 407 b.toNatClampNeg)) (pc' := 177) i155_176 rfl rfl ?_
          obtain ⟨g16, hP⟩ := hP
          refine e_al (n := (2 * (gI h 407 b.toNatClampNeg)).toNatClampNeg) (w := .int (gI h 403 ((2 * (gI h 407 b.toNatClampNeg)).toNatClampNeg))) (pc' := 178) i155_177 rfl (x_alX (a := 20) (by decide) hn sh403 (by decide) g16) rfl rfl ?_
          refine e_ib (z := (gI h 417 ((2 * ((144 * a) + b)).toNatClampNeg)) - (gI h 403 ((2 * (gI h 407 b.toNatClampNeg)).toNatClampNeg))) (pc' := 179) i155_178 rfl rfl ?_
          obtain ⟨g17, hP⟩ := hP
          refine e_as (n := (2 * ((144 * a) + b)).toNatClampNeg) (h' := bI h 417 ((2 * ((144 * a) + b)).toNatClampNeg) (gI h 403 ((2 * (gI h 407 b.toNatClampNeg)).toNatClampNeg))) (pc' := 180) i155_179 rfl (x_alX (a := 20) (by decide) hn sh417 (by decide) g17) rfl (by rw [show (SH 417).1 = 20 by rw [sh417]]; rfl) ?_
          have hn18 : 444 ≤ (bI h 417 ((2 * ((144 * a) + b)).toNatClampNeg) (gI h 403 ((2 * (gI h 407 b.toNatClampNeg)).toNatClampNeg))).1 := le_bI hn
          have hL18 : LK (bI h 417 ((2 * ((144 * a) + b)).toNatClampNeg) (gI h 403 ((2 * (gI h 407 b.toNatClampNeg)).toNatClampNeg))) := LK_bI hL
          refine e_ld (pc' := 181) i155_180 rfl rfl ?_
          refine e_get (w := .ref 417) (pc' := 184) i155_181 rfl (x_isC (by decide) hn18 sh397) (x_fvR (by decide +kernel) (hL18 397 21 417 lk397_21)) ?_
          refine e_cn (pc' := 185) i155_184 rfl ?_
          refine e_ld (pc' := 186) i155_185 rfl rfl ?_
          refine e_ib (z := 2 * ((144 * a) + b)) (pc' := 187) i155_186 rfl rfl ?_
          refine e_cn (pc' := 188) i155_187 rfl ?_
          refine e_ib (z := (2 * ((144 * a) + b)) + 1) (pc' := 189) i155_188 rfl rfl ?_
          refine e_stk (pc' := 190) i155_189 rfl rfl ?_
          obtain ⟨g19, hP⟩ := hP
          refine e_al (n := ((2 * ((144 * a) + b)) + 1).toNatClampNeg) (w := .int (gI (bI h 417 ((2 * ((144 * a) + b)).toNatClampNeg) (gI h 403 ((2 * (gI h 407 b.toNatClampNeg)).toNatClampNeg))) 417 (((2 * ((144 * a) + b)) + 1).toNatClampNeg))) (pc' := 191) i155_190 rfl (x_alX (a := 20) (by decide) hn18 sh417 (by decide) g19) rfl rfl ?_
          refine e_ld (pc' := 192) i155_191 rfl rfl ?_
          refine e_get (w := .ref 403) (pc' := 195) i155_192 rfl (x_isC (by decide) hn18 sh397) (x_fvR (by decide +kernel) (hL18 397 6 403 lk397_6)) ?_
          refine e_cn (pc' := 196) i155_195 rfl ?_
          refine e_ld (pc' := 198) i155_196 rfl rfl ?_
          refine e_ib (z := 2 * (gI h 407 b.toNatClampNeg)) (pc' := 199) i155_198 rfl rfl ?_
          refine e_cn (pc' := 200) i155_199 rfl ?_
          refine e_ib (z := (2 * (gI h 407 b.toNatClampNeg)) + 1) (pc' := 201) i155_200 rfl rfl ?_
          obtain ⟨g20, hP⟩ := hP
          refine e_al (n := ((2 * (gI h 407 b.toNatClampNeg)) + 1).toNatClampNeg) (w := .int (gI h 403 (((2 * (gI h 407 b.toNatClampNeg)) + 1).toNatClampNeg))) (pc' := 202) i155_201 rfl (x_alX (a := 20) (by decide) hn18 sh403 (by decide) g20) rfl (congrArg Value.int (gI_obI (by decide))) ?_
          refine e_ib (z := (gI (bI h 417 ((2 * ((144 * a) + b)).toNatClampNeg) (gI h 403 ((2 * (gI h 407 b.toNatClampNeg)).toNatClampNeg))) 417 (((2 * ((144 * a) + b)) + 1).toNatClampNeg)) - (gI h 403 (((2 * (gI h 407 b.toNatClampNeg)) + 1).toNatClampNeg))) (pc' := 203) i155_202 rfl rfl ?_
          obtain ⟨g21, hP⟩ := hP
          refine e_as (n := ((2 * ((144 * a) + b)) + 1).toNatClampNeg) (h' := bI (bI h 417 ((2 * ((144 * a) + b)).toNatClampNeg) (gI h 403 ((2 * (gI h 407 b.toNatClampNeg)).toNatClampNeg))) 417 (((2 * ((144 * a) + b)) + 1).toNatClampNeg) (gI h 403 (((2 * (gI h 407 b.toNatClampNeg)) + 1).toNatClampNeg))) (pc' := 204) i155_203 rfl (x_alX (a := 20) (by decide) hn18 sh417 (by decide) g21) rfl (by rw [show (SH 417).1 = 20 by rw [sh417]]; rfl) ?_
          have hn22 : 444 ≤ (bI (bI h 417 ((2 * ((144 * a) + b)).toNatClampNeg) (gI h 403 ((2 * (gI h 407 b.toNatClampNeg)).toNatClampNeg))) 417 (((2 * ((144 * a) + b)) + 1).toNatClampNeg) (gI h 403 (((2 * (gI h 407 b.toNatClampNeg)) + 1).toNatClampNeg))).1 := le_bI hn18
          have hL22 : LK (bI (bI h 417 ((2 * ((144 * a) + b)).toNatClampNeg) (gI h 403 ((2 * (gI h 407 b.toNatClampNeg)).toNatClampNeg))) 417 (((2 * ((144 * a) + b)) + 1).toNatClampNeg) (gI h 403 (((2 * (gI h 407 b.toNatClampNeg)) + 1).toNatClampNeg))) := LK_bI hL18
          refine e_ld (pc' := 205) i155_204 rfl rfl ?_
          refine e_get (w := .ref 416) (pc' := 208) i155_205 rfl (x_isC (by decide) hn22 sh397) (x_fvR (by decide +kernel) (hL22 397 20 416 lk397_20)) ?_
          refine e_ld (pc' := 209) i155_208 rfl rfl ?_
          refine e_cn (pc' := 210) i155_209 rfl ?_
          obtain ⟨g23, hP⟩ := hP
          refine e_as (n := ((144 * a) + b).toNatClampNeg) (h' := sI (bI (bI h 417 ((2 * ((144 * a) + b)).toNatClampNeg) (gI h 403 ((2 * (gI h 407 b.toNatClampNeg)).toNatClampNeg))) 417 (((2 * ((144 * a) + b)) + 1).toNatClampNeg) (gI h 403 (((2 * (gI h 407 b.toNatClampNeg)) + 1).toNatClampNeg))) 416 (((144 * a) + b).toNatClampNeg) 1) (pc' := 211) i155_210 rfl (x_alX (a := 22) (by decide) hn22 sh416 (by decide) g23) rfl (by rw [show (SH 416).1 = 22 by rw [sh416]]; rfl) ?_
          have hn24 : 444 ≤ (sI (bI (bI h 417 ((2 * ((144 * a) + b)).toNatClampNeg) (gI h 403 ((2 * (gI h 407 b.toNatClampNeg)).toNatClampNeg))) 417 (((2 * ((144 * a) + b)) + 1).toNatClampNeg) (gI h 403 (((2 * (gI h 407 b.toNatClampNeg)) + 1).toNatClampNeg))) 416 (((144 * a) + b).toNatClampNeg) 1).1 := le_sI hn22
          have hL24 : LK (sI (bI (bI h 417 ((2 * ((144 * a) + b)).toNatClampNeg) (gI h 403 ((2 * (gI h 407 b.toNatClampNeg)).toNatClampNeg))) 417 (((2 * ((144 * a) + b)) + 1).toNatClampNeg) (gI h 403 (((2 * (gI h 407 b.toNatClampNeg)) + 1).toNatClampNeg))) 416 (((144 * a) + b).toNatClampNeg) 1) := LK_sI hL22
          refine e_ld (pc' := 212) i155_211 rfl rfl ?_
          refine e_get (w := .ref 415) (pc' := 215) i155_212 rfl (x_isC (by decide) hn24 sh397) (x_fvR (by decide +kernel) (hL24 397 19 415 lk397_19)) ?_
          refine e_ld (pc' := 216) i155_215 rfl rfl ?_
          refine e_cn (pc' := 217) i155_216 rfl ?_
          obtain ⟨g25, hP⟩ := hP
          refine e_as (n := ((144 * a) + b).toNatClampNeg) (h' := sI (sI (bI (bI h 417 ((2 * ((144 * a) + b)).toNatClampNeg) (gI h 403 ((2 * (gI h 407 b.toNatClampNeg)).toNatClampNeg))) 417 (((2 * ((144 * a) + b)) + 1).toNatClampNeg) (gI h 403 (((2 * (gI h 407 b.toNatClampNeg)) + 1).toNatClampNeg))) 416 (((144 * a) + b).toNatClampNeg) 1) 415 (((144 * a) + b).toNatClampNeg) 0) (pc' := 218) i155_217 rfl (x_alX (a := 20) (by decide) hn24 sh415 (by decide) g25) rfl (by rw [show (SH 415).1 = 20 by rw [sh415]]; rfl) ?_
          have hn26 : 444 ≤ (sI (sI (bI (bI h 417 ((2 * ((144 * a) + b)).toNatClampNeg) (gI h 403 ((2 * (gI h 407 b.toNatClampNeg)).toNatClampNeg))) 417 (((2 * ((144 * a) + b)) + 1).toNatClampNeg) (gI h 403 (((2 * (gI h 407 b.toNatClampNeg)) + 1).toNatClampNeg))) 416 (((144 * a) + b).toNatClampNeg) 1) 415 (((144 * a) + b).toNatClampNeg) 0).1 := le_sI hn24
          have hL26 : LK (sI (sI (bI (bI h 417 ((2 * ((144 * a) + b)).toNatClampNeg) (gI h 403 ((2 * (gI h 407 b.toNatClampNeg)).toNatClampNeg))) 417 (((2 * ((144 * a) + b)) + 1).toNatClampNeg) (gI h 403 (((2 * (gI h 407 b.toNatClampNeg)) + 1).toNatClampNeg))) 416 (((144 * a) + b).toNatClampNeg) 1) 415 (((144 * a) + b).toNatClampNeg) 0) := LK_sI hL24
          refine e_rt i155_218 rfl ?_
          exact ⟨rfl, by unfold G155; simp only [if_pos (show (gI h 416 (((144 * a) + b).toNatClampNeg)) = 0 from (of_decide_eq_true c3)), if_neg (show ¬ ((gI h 399 ((gI h 407 b.toNatClampNeg).toNatClampNeg)) < (gI h 414 (((144 * a) + b).toNatClampNeg))) from (of_decide_eq_false c8)), if_neg (show ¬ ((gI h 417 ((2 * ((144 * a) + b)).toNatClampNeg)) < (gI h 403 ((2 * (gI h 407 b.toNatClampNeg)).toNatClampNeg))) from (of_decide_eq_false c11)), if_neg (show ¬ ((gI h 417 (((2 * ((144 * a) + b)) + 1).toNatClampNeg)) < (gI h 403 (((2 * (gI h 407 b.toNatClampNeg)) + 1).toNatClampNeg))) from (of_decide_eq_false c14))]⟩
  · replace hP := hP.2 (of_decide_eq_false c3)
    refine e_ld (pc' := 26) i155_25 rfl rfl ?_
    refine e_get (w := .ref 415) (pc' := 29) i155_26 rfl (x_isC (by decide) hn sh397) (x_fvR (by decide +kernel) (hL 397 19 415 lk397_19)) ?_
    refine e_ld (pc' := 30) i155_29 rfl rfl ?_
    refine e_stk (pc' := 31) i155_30 rfl rfl ?_
    obtain ⟨g27, hP⟩ := hP
    refine e_al (n := ((144 * a) + b).toNatClampNeg) (w := .int (gI h 415 (((144 * a) + b).toNatClampNeg))) (pc' := 32) i155_31 rfl (x_alX (a := 20) (by decide) hn sh415 (by decide) g27) rfl rfl ?_
    refine e_cn (pc' := 33) i155_32 rfl ?_
    refine e_ib (z := (gI h 415 (((144 * a) + b).toNatClampNeg)) + 1) (pc' := 34) i155_33 rfl rfl ?_
    obtain ⟨g28, hP⟩ := hP
    refine e_as (n := ((144 * a) + b).toNatClampNeg) (h' := aI h 415 (((144 * a) + b).toNatClampNeg) 1) (pc' := 35) i155_34 rfl (x_alX (a := 20) (by decide) hn sh415 (by decide) g28) rfl (by rw [show (SH 415).1 = 20 by rw [sh415]]; rfl) ?_
    have hn29 : 444 ≤ (aI h 415 (((144 * a) + b).toNatClampNeg) 1).1 := le_aI hn
    have hL29 : LK (aI h 415 (((144 * a) + b).toNatClampNeg) 1) := LK_aI hL
    refine e_ld (pc' := 36) i155_35 rfl rfl ?_
    refine e_get (w := .ref 415) (pc' := 39) i155_36 rfl (x_isC (by decide) hn29 sh397) (x_fvR (by decide +kernel) (hL29 397 19 415 lk397_19)) ?_
    refine e_ld (pc' := 40) i155_39 rfl rfl ?_
    obtain ⟨g30, hP⟩ := hP
    refine e_al (n := ((144 * a) + b).toNatClampNeg) (w := .int (gI (aI h 415 (((144 * a) + b).toNatClampNeg) 1) 415 (((144 * a) + b).toNatClampNeg))) (pc' := 41) i155_40 rfl (x_alX (a := 20) (by decide) hn29 sh415 (by decide) g30) rfl rfl ?_
    refine e_ld (pc' := 42) i155_41 rfl rfl ?_
    refine e_get (w := .ref 401) (pc' := 45) i155_42 rfl (x_isC (by decide) hn29 sh397) (x_fvR (by decide +kernel) (hL29 397 4 401 lk397_4)) ?_
    refine e_ld (pc' := 47) i155_45 rfl rfl ?_
    obtain ⟨g31, hP⟩ := hP
    refine e_al (n := (gI h 407 b.toNatClampNeg).toNatClampNeg) (w := .int (gI h 401 ((gI h 407 b.toNatClampNeg).toNatClampNeg))) (pc' := 48) i155_47 rfl (x_alX (a := 20) (by decide) hn29 sh401 (by decide) g31) rfl (congrArg Value.int (gI_oaI (by decide))) ?_
    refine e_ic (pc' := 51) i155_48 rfl (fun c32 => ?_) (fun c32 => ?_)
    · replace hP := hP.2 (of_decide_eq_true c32)
      refine e_ld (pc' := 92) i155_91 rfl rfl ?_
      refine e_get (w := .ref 416) (pc' := 95) i155_92 rfl (x_isC (by decide) hn29 sh397) (x_fvR (by decide +kernel) (hL29 397 20 416 lk397_20)) ?_
      refine e_ld (pc' := 96) i155_95 rfl rfl ?_
      obtain ⟨g33, hP⟩ := hP
      refine e_al (n := ((144 * a) + b).toNatClampNeg) (w := .int (gI h 416 (((144 * a) + b).toNatClampNeg))) (pc' := 97) i155_96 rfl (x_alX (a := 22) (by decide) hn29 sh416 (by decide) g33) rfl (congrArg Value.int (gI_oaI (by decide))) ?_
      refine e_ifT i155_97 (decide_eq_true (of_decide_eq_false c3)) ?_
      refine e_rt i155_218 rfl ?_
      exact ⟨rfl, by unfold G155; simp only [if_neg (show ¬ ((gI h 416 (((144 * a) + b).toNatClampNeg)) = 0) from (of_decide_eq_false c3)), if_neg (show ¬ ((gI (aI h 415 (((144 * a) + b).toNatClampNeg) 1) 415 (((144 * a) + b).toNatClampNeg)) = (gI h 401 ((gI h 407 b.toNatClampNeg).toNatClampNeg))) from (of_decide_eq_true c32))]⟩
    · replace hP := hP.1 (Decidable.not_not.mp (of_decide_eq_false c32))
      refine e_ld (pc' := 52) i155_51 rfl rfl ?_
      refine e_get (w := .ref 414) (pc' := 55) i155_52 rfl (x_isC (by decide) hn29 sh397) (x_fvR (by decide +kernel) (hL29 397 18 414 lk397_18)) ?_
      refine e_ld (pc' := 56) i155_55 rfl rfl ?_
      refine e_stk (pc' := 57) i155_56 rfl rfl ?_
      obtain ⟨g35, hP⟩ := hP
      refine e_al (n := ((144 * a) + b).toNatClampNeg) (w := .int (gI h 414 (((144 * a) + b).toNatClampNeg))) (pc' := 58) i155_57 rfl (x_alX (a := 20) (by decide) hn29 sh414 (by decide) g35) rfl (congrArg Value.int (gI_oaI (by decide))) ?_
      refine e_ld (pc' := 59) i155_58 rfl rfl ?_
      refine e_get (w := .ref 399) (pc' := 62) i155_59 rfl (x_isC (by decide) hn29 sh397) (x_fvR (by decide +kernel) (hL29 397 2 399 lk397_2)) ?_
      refine e_ld (pc' := 64) i155_62 rfl rfl ?_
      obtain ⟨g36, hP⟩ := hP
      refine e_al (n := (gI h 407 b.toNatClampNeg).toNatClampNeg) (w := .int (gI h 399 ((gI h 407 b.toNatClampNeg).toNatClampNeg))) (pc' := 65) i155_64 rfl (x_alX (a := 20) (by decide) hn29 sh399 (by decide) g36) rfl (congrArg Value.int (gI_oaI (by decide))) ?_
      refine e_ib (z := (gI h 414 (((144 * a) + b).toNatClampNeg)) + (gI h 399 ((gI h 407 b.toNatClampNeg).toNatClampNeg))) (pc' := 66) i155_65 rfl rfl ?_
      obtain ⟨g37, hP⟩ := hP
      refine e_as (n := ((144 * a) + b).toNatClampNeg) (h' := aI (aI h 415 (((144 * a) + b).toNatClampNeg) 1) 414 (((144 * a) + b).toNatClampNeg) (gI h 399 ((gI h 407 b.toNatClampNeg).toNatClampNeg))) (pc' := 67) i155_66 rfl (x_alX (a := 20) (by decide) hn29 sh414 (by decide) g37) rfl (by rw [show (SH 414).1 = 20 by rw [sh414]]; exact congrArg (fun z => some (sI (aI h 415 (((144 * a) + b).toNatClampNeg) 1) 414 (((144 * a) + b).toNatClampNeg) (z + (gI h 399 ((gI h 407 b.toNatClampNeg).toNatClampNeg))))) (Eq.symm (gI_oaI (by decide)))) ?_
      have hn38 : 444 ≤ (aI (aI h 415 (((144 * a) + b).toNatClampNeg) 1) 414 (((144 * a) + b).toNatClampNeg) (gI h 399 ((gI h 407 b.toNatClampNeg).toNatClampNeg))).1 := le_aI hn29
      have hL38 : LK (aI (aI h 415 (((144 * a) + b).toNatClampNeg) 1) 414 (((144 * a) + b).toNatClampNeg) (gI h 399 ((gI h 407 b.toNatClampNeg).toNatClampNeg))) := LK_aI hL29
      refine e_ld (pc' := 68) i155_67 rfl rfl ?_
      refine e_get (w := .ref 416) (pc' := 71) i155_68 rfl (x_isC (by decide) hn38 sh397) (x_fvR (by decide +kernel) (hL38 397 20 416 lk397_20)) ?_
      refine e_ld (pc' := 72) i155_71 rfl rfl ?_
      refine e_cn (pc' := 73) i155_72 rfl ?_
      obtain ⟨g39, hP⟩ := hP
      refine e_as (n := ((144 * a) + b).toNatClampNeg) (h' := sI (aI (aI h 415 (((144 * a) + b).toNatClampNeg) 1) 414 (((144 * a) + b).toNatClampNeg) (gI h 399 ((gI h 407 b.toNatClampNeg).toNatClampNeg))) 416 (((144 * a) + b).toNatClampNeg) 0) (pc' := 74) i155_73 rfl (x_alX (a := 22) (by decide) hn38 sh416 (by decide) g39) rfl (by rw [show (SH 416).1 = 22 by rw [sh416]]; rfl) ?_
      have hn40 : 444 ≤ (sI (aI (aI h 415 (((144 * a) + b).toNatClampNeg) 1) 414 (((144 * a) + b).toNatClampNeg) (gI h 399 ((gI h 407 b.toNatClampNeg).toNatClampNeg))) 416 (((144 * a) + b).toNatClampNeg) 0).1 := le_sI hn38
      have hL40 : LK (sI (aI (aI h 415 (((144 * a) + b).toNatClampNeg) 1) 414 (((144 * a) + b).toNatClampNeg) (gI h 399 ((gI h 407 b.toNatClampNeg).toNatClampNeg))) 416 (((144 * a) + b).toNatClampNeg) 0) := LK_sI hL38
      refine e_ld (pc' := 75) i155_74 rfl rfl ?_
      refine e_get (w := .ref 415) (pc' := 78) i155_75 rfl (x_isC (by decide) hn40 sh397) (x_fvR (by decide +kernel) (hL40 397 19 415 lk397_19)) ?_
      refine e_ld (pc' := 79) i155_78 rfl rfl ?_
      refine e_cn (pc' := 80) i155_79 rfl ?_
      obtain ⟨g41, hP⟩ := hP
      refine e_as (n := ((144 * a) + b).toNatClampNeg) (h' := sI (sI (aI (aI h 415 (((144 * a) + b).toNatClampNeg) 1) 414 (((144 * a) + b).toNatClampNeg) (gI h 399 ((gI h 407 b.toNatClampNeg).toNatClampNeg))) 416 (((144 * a) + b).toNatClampNeg) 0) 415 (((144 * a) + b).toNatClampNeg) 0) (pc' := 81) i155_80 rfl (x_alX (a := 20) (by decide) hn40 sh415 (by decide) g41) rfl (by rw [show (SH 415).1 = 20 by rw [sh415]]; rfl) ?_
      have hn42 : 444 ≤ (sI (sI (aI (aI h 415 (((144 * a) + b).toNatClampNeg) 1) 414 (((144 * a) + b).toNatClampNeg) (gI h 399 ((gI h 407 b.toNatClampNeg).toNatClampNeg))) 416 (((144 * a) + b).toNatClampNeg) 0) 415 (((144 * a) + b).toNatClampNeg) 0).1 := le_sI hn40
      have hL42 : LK (sI (sI (aI (aI h 415 (((144 * a) + b).toNatClampNeg) 1) 414 (((144 * a) + b).toNatClampNeg) (gI h 399 ((gI h 407 b.toNatClampNeg).toNatClampNeg))) 416 (((144 * a) + b).toNatClampNeg) 0) 415 (((144 * a) + b).toNatClampNeg) 0) := LK_sI hL40
      refine e_ld (pc' := 82) i155_81 rfl rfl ?_
      refine e_get (w := .ref 433) (pc' := 85) i155_82 rfl (x_isC (by decide) hn42 sh397) (x_fvR (by decide +kernel) (hL42 397 39 433 lk397_39)) ?_
      refine e_ld (pc' := 86) i155_85 rfl rfl ?_
      refine e_stk (pc' := 87) i155_86 rfl rfl ?_
      obtain ⟨g43, hP⟩ := hP
      refine e_al (n := b.toNatClampNeg) (w := .int (gI h 433 b.toNatClampNeg)) (pc' := 88) i155_87 rfl (x_alX (a := 20) (by decide) hn42 sh433 (by decide) g43) rfl (congrArg Value.int (Eq.trans (gI_osI (by decide)) (Eq.trans (gI_osI (by decide)) (Eq.trans (gI_oaI (by decide)) (gI_oaI (by decide)))))) ?_
      refine e_cn (pc' := 89) i155_88 rfl ?_
      refine e_ib (z := (gI h 433 b.toNatClampNeg) + 1) (pc' := 90) i155_89 rfl rfl ?_
      obtain ⟨g44, hP⟩ := hP
      refine e_as (n := b.toNatClampNeg) (h' := aI (sI (sI (aI (aI h 415 (((144 * a) + b).toNatClampNeg) 1) 414 (((144 * a) + b).toNatClampNeg) (gI h 399 ((gI h 407 b.toNatClampNeg).toNatClampNeg))) 416 (((144 * a) + b).toNatClampNeg) 0) 415 (((144 * a) + b).toNatClampNeg) 0) 433 b.toNatClampNeg 1) (pc' := 91) i155_90 rfl (x_alX (a := 20) (by decide) hn42 sh433 (by decide) g44) rfl (by rw [show (SH 433).1 = 20 by rw [sh433]]; exact congrArg (fun z => some (sI (sI (sI (aI (aI h 415 (((144 * a) + b).toNatClampNeg) 1) 414 (((144 * a) + b).toNatClampNeg) (gI h 399 ((gI h 407 b.toNatClampNeg).toNatClampNeg))) 416 (((144 * a) + b).toNatClampNeg) 0) 415 (((144 * a) + b).toNatClampNeg) 0) 433 b.toNatClampNeg (z + 1))) (Eq.symm (Eq.trans (gI_osI (by decide)) (Eq.trans (gI_osI (by decide)) (Eq.trans (gI_oaI (by decide)) (gI_oaI (by decide))))))) ?_
      have hn45 : 444 ≤ (aI (sI (sI (aI (aI h 415 (((144 * a) + b).toNatClampNeg) 1) 414 (((144 * a) + b).toNatClampNeg) (gI h 399 ((gI h 407 b.toNatClampNeg).toNatClampNeg))) 416 (((144 * a) + b).toNatClampNeg) 0) 415 (((144 * a) + b).toNatClampNeg) 0) 433 b.toNatClampNeg 1).1 := le_aI hn42
      have hL45 : LK (aI (sI (sI (aI (aI h 415 (((144 * a) + b).toNatClampNeg) 1) 414 (((144 * a) + b).toNatClampNeg) (gI h 399 ((gI h 407 b.toNatClampNeg).toNatClampNeg))) 416 (((144 * a) + b).toNatClampNeg) 0) 415 (((144 * a) + b).toNatClampNeg) 0) 433 b.toNatClampNeg 1) := LK_aI hL42
      refine e_ld (pc' := 92) i155_91 rfl rfl ?_
      refine e_get (w := .ref 416) (pc' := 95) i155_92 rfl (x_isC (by decide) hn45 sh397) (x_fvR (by decide +kernel) (hL45 397 20 416 lk397_20)) ?_
      refine e_ld (pc' := 96) i155_95 rfl rfl ?_
      obtain ⟨g46, hP⟩ := hP
      refine e_al (n := ((144 * a) + b).toNatClampNeg) (w := .int (gI (sI (aI (aI h 415 (((144 * a) + b).toNatClampNeg) 1) 414 (((144 * a) + b).toNatClampNeg) (gI h 399 ((gI h 407 b.toNatClampNeg).toNatClampNeg))) 416 (((144 * a) + b).toNatClampNeg) 0) 416 (((144 * a) + b).toNatClampNeg))) (pc' := 97) i155_96 rfl (x_alX (a := 22) (by decide) hn45 sh416 (by decide) g46) rfl (congrArg Value.int (Eq.trans (gI_oaI (by decide)) (gI_osI (by decide)))) ?_
      refine e_if (pc' := 100) i155_97 rfl (fun c47 => ?_) (fun c47 => ?_)
      · replace hP := hP.2 (of_decide_eq_true c47)
        refine e_rt i155_218 rfl ?_
        exact ⟨rfl, by unfold G155; simp only [if_neg (show ¬ ((gI h 416 (((144 * a) + b).toNatClampNeg)) = 0) from (of_decide_eq_false c3)), if_pos (show (gI (aI h 415 (((144 * a) + b).toNatClampNeg) 1) 415 (((144 * a) + b).toNatClampNeg)) = (gI h 401 ((gI h 407 b.toNatClampNeg).toNatClampNeg)) from (Decidable.not_not.mp (of_decide_eq_false c32))), if_neg (show ¬ ((gI (sI (aI (aI h 415 (((144 * a) + b).toNatClampNeg) 1) 414 (((144 * a) + b).toNatClampNeg) (gI h 399 ((gI h 407 b.toNatClampNeg).toNatClampNeg))) 416 (((144 * a) + b).toNatClampNeg) 0) 416 (((144 * a) + b).toNatClampNeg)) = 0) from (of_decide_eq_true c47))]⟩
      · replace hP := hP.1 (Decidable.not_not.mp (of_decide_eq_false c47))
        refine e_ld (pc' := 101) i155_100 rfl rfl ?_
        refine e_get (w := .ref 414) (pc' := 104) i155_101 rfl (x_isC (by decide) hn45 sh397) (x_fvR (by decide +kernel) (hL45 397 18 414 lk397_18)) ?_
        refine e_ld (pc' := 105) i155_104 rfl rfl ?_
        obtain ⟨g48, hP⟩ := hP
        refine e_al (n := ((144 * a) + b).toNatClampNeg) (w := .int (gI (aI (aI h 415 (((144 * a) + b).toNatClampNeg) 1) 414 (((144 * a) + b).toNatClampNeg) (gI h 399 ((gI h 407 b.toNatClampNeg).toNatClampNeg))) 414 (((144 * a) + b).toNatClampNeg))) (pc' := 106) i155_105 rfl (x_alX (a := 20) (by decide) hn45 sh414 (by decide) g48) rfl (congrArg Value.int (Eq.trans (gI_oaI (by decide)) (Eq.trans (gI_osI (by decide)) (gI_osI (by decide))))) ?_
        refine e_ld (pc' := 107) i155_106 rfl rfl ?_
        refine e_get (w := .ref 399) (pc' := 110) i155_107 rfl (x_isC (by decide) hn45 sh397) (x_fvR (by decide +kernel) (hL45 397 2 399 lk397_2)) ?_
        refine e_ld (pc' := 112) i155_110 rfl rfl ?_
        obtain ⟨g49, hP⟩ := hP
        refine e_al (n := (gI h 407 b.toNatClampNeg).toNatClampNeg) (w := .int (gI h 399 ((gI h 407 b.toNatClampNeg).toNatClampNeg))) (pc' := 113) i155_112 rfl (x_alX (a := 20) (by decide) hn45 sh399 (by decide) g49) rfl (congrArg Value.int (Eq.trans (gI_oaI (by decide)) (Eq.trans (gI_osI (by decide)) (Eq.trans (gI_osI (by decide)) (Eq.trans (gI_oaI (by decide)) (gI_oaI (by decide))))))) ?_
        refine e_ic (pc' := 116) i155_113 rfl (fun c50 => ?_) (fun c50 => ?_)
        · replace hP := hP.1 (of_decide_eq_true c50)
          refine e_rt i155_218 rfl ?_
          exact ⟨rfl, by unfold G155; simp only [if_neg (show ¬ ((gI h 416 (((144 * a) + b).toNatClampNeg)) = 0) from (of_decide_eq_false c3)), if_pos (show (gI (aI h 415 (((144 * a) + b).toNatClampNeg) 1) 415 (((144 * a) + b).toNatClampNeg)) = (gI h 401 ((gI h 407 b.toNatClampNeg).toNatClampNeg)) from (Decidable.not_not.mp (of_decide_eq_false c32))), if_pos (show (gI (sI (aI (aI h 415 (((144 * a) + b).toNatClampNeg) 1) 414 (((144 * a) + b).toNatClampNeg) (gI h 399 ((gI h 407 b.toNatClampNeg).toNatClampNeg))) 416 (((144 * a) + b).toNatClampNeg) 0) 416 (((144 * a) + b).toNatClampNeg)) = 0 from (Decidable.not_not.mp (of_decide_eq_false c47))), if_pos (show (gI h 399 ((gI h 407 b.toNatClampNeg).toNatClampNeg)) < (gI (aI (aI h 415 (((144 * a) + b).toNatClampNeg) 1) 414 (((144 * a) + b).toNatClampNeg) (gI h 399 ((gI h 407 b.toNatClampNeg).toNatClampNeg))) 414 (((144 * a) + b).toNatClampNeg)) from (of_decide_eq_true c50))]⟩
        · replace hP := hP.2 (of_decide_eq_false c50)
          refine e_ld (pc' := 117) i155_116 rfl rfl ?_
          refine e_get (w := .ref 417) (pc' := 120) i155_117 rfl (x_isC (by decide) hn45 sh397) (x_fvR (by decide +kernel) (hL45 397 21 417 lk397_21)) ?_
          refine e_cn (pc' := 121) i155_120 rfl ?_
          refine e_ld (pc' := 122) i155_121 rfl rfl ?_
          refine e_ib (z := 2 * ((144 * a) + b)) (pc' := 123) i155_122 rfl rfl ?_
          obtain ⟨g51, hP⟩ := hP
          refine e_al (n := (2 * ((144 * a) + b)).toNatClampNeg) (w := .int (gI h 417 ((2 * ((144 * a) + b)).toNatClampNeg))) (pc' := 124) i155_123 rfl (x_alX (a := 20) (by decide) hn45 sh417 (by decide) g51) rfl (congrArg Value.int (Eq.trans (gI_oaI (by decide)) (Eq.trans (gI_osI (by decide)) (Eq.trans (gI_osI (by decide)) (Eq.trans (gI_oaI (by decide)) (gI_oaI (by decide))))))) ?_
          refine e_ld (pc' := 125) i155_124 rfl rfl ?_
          refine e_get (w := .ref 403) (pc' := 128) i155_125 rfl (x_isC (by decide) hn45 sh397) (x_fvR (by decide +kernel) (hL45 397 6 403 lk397_6)) ?_
          refine e_cn (pc' := 129) i155_128 rfl ?_
          refine e_ld (pc' := 131) i155_129 rfl rfl ?_
          refine e_ib (z := 2 * (gI h 407 b.toNatClampNeg)) (pc' := 132) i155_131 rfl rfl ?_
          obtain ⟨g52, hP⟩ := hP
          refine e_al (n := (2 * (gI h 407 b.toNatClampNeg)).toNatClampNeg) (w := .int (gI h 403 ((2 * (gI h 407 b.toNatClampNeg)).toNatClampNeg))) (pc' := 133) i155_132 rfl (x_alX (a := 20) (by decide) hn45 sh403 (by decide) g52) rfl (congrArg Value.int (Eq.trans (gI_oaI (by decide)) (Eq.trans (gI_osI (by decide)) (Eq.trans (gI_osI (by decide)) (Eq.trans (gI_oaI (by decide)) (gI_oaI (by decide))))))) ?_
          refine e_ic (pc' := 136) i155_133 rfl (fun c53 => ?_) (fun c53 => ?_)
          · replace hP := hP.1 (of_decide_eq_true c53)
            refine e_rt i155_218 rfl ?_
            exact ⟨rfl, by unfold G155; simp only [if_neg (show ¬ ((gI h 416 (((144 * a) + b).toNatClampNeg)) = 0) from (of_decide_eq_false c3)), if_pos (show (gI (aI h 415 (((144 * a) + b).toNatClampNeg) 1) 415 (((144 * a) + b).toNatClampNeg)) = (gI h 401 ((gI h 407 b.toNatClampNeg).toNatClampNeg)) from (Decidable.not_not.mp (of_decide_eq_false c32))), if_pos (show (gI (sI (aI (aI h 415 (((144 * a) + b).toNatClampNeg) 1) 414 (((144 * a) + b).toNatClampNeg) (gI h 399 ((gI h 407 b.toNatClampNeg).toNatClampNeg))) 416 (((144 * a) + b).toNatClampNeg) 0) 416 (((144 * a) + b).toNatClampNeg)) = 0 from (Decidable.not_not.mp (of_decide_eq_false c47))), if_neg (show ¬ ((gI h 399 ((gI h 407 b.toNatClampNeg).toNatClampNeg)) < (gI (aI (aI h 415 (((144 * a) + b).toNatClampNeg) 1) 414 (((144 * a) + b).toNatClampNeg) (gI h 399 ((gI h 407 b.toNatClampNeg).toNatClampNeg))) 414 (((144 * a) + b).toNatClampNeg))) from (of_decide_eq_false c50)), if_pos (show (gI h 417 ((2 * ((144 * a) + b)).toNatClampNeg)) < (gI h 403 ((2 * (gI h 407 b.toNatClampNeg)).toNatClampNeg)) from (of_decide_eq_true c53))]⟩
          · replace hP := hP.2 (of_decide_eq_false c53)
            refine e_ld (pc' := 137) i155_136 rfl rfl ?_
            refine e_get (w := .ref 417) (pc' := 140) i155_137 rfl (x_isC (by decide) hn45 sh397) (x_fvR (by decide +kernel) (hL45 397 21 417 lk397_21)) ?_
            refine e_cn (pc' := 141) i155_140 rfl ?_
            refine e_ld (pc' := 142) i155_141 rfl rfl ?_
            refine e_ib (z := 2 * ((144 * a) + b)) (pc' := 143) i155_142 rfl rfl ?_
            refine e_cn (pc' := 144) i155_143 rfl ?_
            refine e_ib (z := (2 * ((144 * a) + b)) + 1) (pc' := 145) i155_144 rfl rfl ?_
            obtain ⟨g54, hP⟩ := hP
            refine e_al (n := ((2 * ((144 * a) + b)) + 1).toNatClampNeg) (w := .int (gI h 417 (((2 * ((144 * a) + b)) + 1).toNatClampNeg))) (pc' := 146) i155_145 rfl (x_alX (a := 20) (by decide) hn45 sh417 (by decide) g54) rfl (congrArg Value.int (Eq.trans (gI_oaI (by decide)) (Eq.trans (gI_osI (by decide)) (Eq.trans (gI_osI (by decide)) (Eq.trans (gI_oaI (by decide)) (gI_oaI (by decide))))))) ?_
            refine e_ld (pc' := 147) i155_146 rfl rfl ?_
            refine e_get (w := .ref 403) (pc' := 150) i155_147 rfl (x_isC (by decide) hn45 sh397) (x_fvR (by decide +kernel) (hL45 397 6 403 lk397_6)) ?_
            refine e_cn (pc' := 151) i155_150 rfl ?_
            refine e_ld (pc' := 153) i155_151 rfl rfl ?_
            refine e_ib (z := 2 * (gI h 407 b.toNatClampNeg)) (pc' := 154) i155_153 rfl rfl ?_
            refine e_cn (pc' := 155) i155_154 rfl ?_
            refine e_ib (z := (2 * (gI h 407 b.toNatClampNeg)) + 1) (pc' := 156) i155_155 rfl rfl ?_
            obtain ⟨g55, hP⟩ := hP
            refine e_al (n := ((2 * (gI h 407 b.toNatClampNeg)) + 1).toNatClampNeg) (w := .int (gI h 403 (((2 * (gI h 407 b.toNatClampNeg)) + 1).toNatClampNeg))) (pc' := 157) i155_156 rfl (x_alX (a := 20) (by decide) hn45 sh403 (by decide) g55) rfl (congrArg Value.int (Eq.trans (gI_oaI (by decide)) (Eq.trans (gI_osI (by decide)) (Eq.trans (gI_osI (by decide)) (Eq.trans (gI_oaI (by decide)) (gI_oaI (by decide))))))) ?_
            refine e_ic (pc' := 160) i155_157 rfl (fun c56 => ?_) (fun c56 => ?_)
            · replace hP := hP.1 (of_decide_eq_true c56)
              refine e_rt i155_218 rfl ?_
              exact ⟨rfl, by unfold G155; simp only [if_neg (show ¬ ((gI h 416 (((144 * a) + b).toNatClampNeg)) = 0) from (of_decide_eq_false c3)), if_pos (show (gI (aI h 415 (((144 * a) + b).toNatClampNeg) 1) 415 (((144 * a) + b).toNatClampNeg)) = (gI h 401 ((gI h 407 b.toNatClampNeg).toNatClampNeg)) from (Decidable.not_not.mp (of_decide_eq_false c32))), if_pos (show (gI (sI (aI (aI h 415 (((144 * a) + b).toNatClampNeg) 1) 414 (((144 * a) + b).toNatClampNeg) (gI h 399 ((gI h 407 b.toNatClampNeg).toNatClampNeg))) 416 (((144 * a) + b).toNatClampNeg) 0) 416 (((144 * a) + b).toNatClampNeg)) = 0 from (Decidable.not_not.mp (of_decide_eq_false c47))), if_neg (show ¬ ((gI h 399 ((gI h 407 b.toNatClampNeg).toNatClampNeg)) < (gI (aI (aI h 415 (((144 * a) + b).toNatClampNeg) 1) 414 (((144 * a) + b).toNatClampNeg) (gI h 399 ((gI h 407 b.toNatClampNeg).toNatClampNeg))) 414 (((144 * a) + b).toNatClampNeg))) from (of_decide_eq_false c50)), if_neg (show ¬ ((gI h 417 ((2 * ((144 * a) + b)).toNatClampNeg)) < (gI h 403 ((2 * (gI h 407 b.toNatClampNeg)).toNatClampNeg))) from (of_decide_eq_false c53)), if_pos (show (gI h 417 (((2 * ((144 * a) + b)) + 1).toNatClampNeg)) < (gI h 403 (((2 * (gI h 407 b.toNatClampNeg)) + 1).toNatClampNeg)) from (of_decide_eq_true c56))]⟩
            · replace hP := hP.2 (of_decide_eq_false c56)
              refine e_ld (pc' := 161) i155_160 rfl rfl ?_
              refine e_get (w := .ref 417) (pc' := 164) i155_161 rfl (x_isC (by decide) hn45 sh397) (x_fvR (by decide +kernel) (hL45 397 21 417 lk397_21)) ?_
              refine e_cn (pc' := 165) i155_164 rfl ?_
              refine e_ld (pc' := 166) i155_165 rfl rfl ?_
              refine e_ib (z := 2 * ((144 * a) + b)) (pc' := 167) i155_166 rfl rfl ?_
              refine e_stk (pc' := 168) i155_167 rfl rfl ?_
              obtain ⟨g57, hP⟩ := hP
              refine e_al (n := (2 * ((144 * a) + b)).toNatClampNeg) (w := .int (gI h 417 ((2 * ((144 * a) + b)).toNatClampNeg))) (pc' := 169) i155_168 rfl (x_alX (a := 20) (by decide) hn45 sh417 (by decide) g57) rfl (congrArg Value.int (Eq.trans (gI_oaI (by decide)) (Eq.trans (gI_osI (by decide)) (Eq.trans (gI_osI (by decide)) (Eq.trans (gI_oaI (by decide)) (gI_oaI (by decide))))))) ?_
              refine e_ld (pc' := 170) i155_169 rfl rfl ?_
              refine e_get (w := .ref 403) (pc' := 173) i155_170 rfl (x_isC (by decide) hn45 sh397) (x_fvR (by decide +kernel) (hL45 397 6 403 lk397_6)) ?_
              refine e_cn (pc' := 174) i155_173 rfl ?_
              refine e_ld (pc' := 176) i155_174 rfl rfl ?_
              refine e_ib (z := 2 * (gI h 407 b.toNatClampNeg)) (pc' := 177) i155_176 rfl rfl ?_
              obtain ⟨g58, hP⟩ := hP
              refine e_al (n := (2 * (gI h 407 b.toNatClampNeg)).toNatClampNeg) (w := .int (gI h 403 ((2 * (gI h 407 b.toNatClampNeg)).toNatClampNeg))) (pc' := 178) i155_177 rfl (x_alX (a := 20) (by decide) hn45 sh403 (by decide) g58) rfl (congrArg Value.int (Eq.trans (gI_oaI (by decide)) (Eq.trans (gI_osI (by decide)) (Eq.trans (gI_osI (by decide)) (Eq.trans (gI_oaI (by decide)) (gI_oaI (by decide))))))) ?_
              refine e_ib (z := (gI h 417 ((2 * ((144 * a) + b)).toNatClampNeg)) - (gI h 403 ((2 * (gI h 407 b.toNatClampNeg)).toNatClampNeg))) (pc' := 179) i155_178 rfl rfl ?_
              obtain ⟨g59, hP⟩ := hP
              refine e_as (n := (2 * ((144 * a) + b)).toNatClampNeg) (h' := bI (aI (sI (sI (aI (aI h 415 (((144 * a) + b).toNatClampNeg) 1) 414 (((144 * a) + b).toNatClampNeg) (gI h 399 ((gI h 407 b.toNatClampNeg).toNatClampNeg))) 416 (((144 * a) + b).toNatClampNeg) 0) 415 (((144 * a) + b).toNatClampNeg) 0) 433 b.toNatClampNeg 1) 417 ((2 * ((144 * a) + b)).toNatClampNeg) (gI h 403 ((2 * (gI h 407 b.toNatClampNeg)).toNatClampNeg))) (pc' := 180) i155_179 rfl (x_alX (a := 20) (by decide) hn45 sh417 (by decide) g59) rfl (by rw [show (SH 417).1 = 20 by rw [sh417]]; exact congrArg (fun z => some (sI (aI (sI (sI (aI (aI h 415 (((144 * a) + b).toNatClampNeg) 1) 414 (((144 * a) + b).toNatClampNeg) (gI h 399 ((gI h 407 b.toNatClampNeg).toNatClampNeg))) 416 (((144 * a) + b).toNatClampNeg) 0) 415 (((144 * a) + b).toNatClampNeg) 0) 433 b.toNatClampNeg 1) 417 ((2 * ((144 * a) + b)).toNatClampNeg) (z - (gI h 403 ((2 * (gI h 407 b.toNatClampNeg)).toNatClampNeg))))) (Eq.symm (Eq.trans (gI_oaI (by decide)) (Eq.trans (gI_osI (by decide)) (Eq.trans (gI_osI (by decide)) (Eq.trans (gI_oaI (by decide)) (gI_oaI (by decide)))))))) ?_
              have hn60 : 444 ≤ (bI (aI (sI (sI (aI (aI h 415 (((144 * a) + b).toNatClampNeg) 1) 414 (((144 * a) + b).toNatClampNeg) (gI h 399 ((gI h 407 b.toNatClampNeg).toNatClampNeg))) 416 (((144 * a) + b).toNatClampNeg) 0) 415 (((144 * a) + b).toNatClampNeg) 0) 433 b.toNatClampNeg 1) 417 ((2 * ((144 * a) + b)).toNatClampNeg) (gI h 403 ((2 * (gI h 407 b.toNatClampNeg)).toNatClampNeg))).1 := le_bI hn45
              have hL60 : LK (bI (aI (sI (sI (aI (aI h 415 (((144 * a) + b).toNatClampNeg) 1) 414 (((144 * a) + b).toNatClampNeg) (gI h 399 ((gI h 407 b.toNatClampNeg).toNatClampNeg))) 416 (((144 * a) + b).toNatClampNeg) 0) 415 (((144 * a) + b).toNatClampNeg) 0) 433 b.toNatClampNeg 1) 417 ((2 * ((144 * a) + b)).toNatClampNeg) (gI h 403 ((2 * (gI h 407 b.toNatClampNeg)).toNatClampNeg))) := LK_bI hL45
              refine e_ld (pc' := 181) i155_180 rfl rfl ?_
              refine e_get (w := .ref 417) (pc' := 184) i155_181 rfl (x_isC (by decide) hn60 sh397) (x_fvR (by decide +kernel) (hL60 397 21 417 lk397_21)) ?_
              refine e_cn (pc' := 185) i155_184 rfl ?_
              refine e_ld (pc' := 186) i155_185 rfl rfl ?_
              refine e_ib (z := 2 * ((144 * a) + b)) (pc' := 187) i155_186 rfl rfl ?_
              refine e_cn (pc' := 188) i155_187 rfl ?_
              refine e_ib (z := (2 * ((144 * a) + b)) + 1) (pc' := 189) i155_188 rfl rfl ?_
              refine e_stk (pc' := 190) i155_189 rfl rfl ?_
              obtain ⟨g61, hP⟩ := hP
              refine e_al (n := ((2 * ((144 * a) + b)) + 1).toNatClampNeg) (w := .int (gI (bI (aI (sI (sI (aI (aI h 415 (((144 * a) + b).toNatClampNeg) 1) 414 (((144 * a) + b).toNatClampNeg) (gI h 399 ((gI h 407 b.toNatClampNeg).toNatClampNeg))) 416 (((144 * a) + b).toNatClampNeg) 0) 415 (((144 * a) + b).toNatClampNeg) 0) 433 b.toNatClampNeg 1) 417 ((2 * ((144 * a) + b)).toNatClampNeg) (gI h 403 ((2 * (gI h 407 b.toNatClampNeg)).toNatClampNeg))) 417 (((2 * ((144 * a) + b)) + 1).toNatClampNeg))) (pc' := 191) i155_190 rfl (x_alX (a := 20) (by decide) hn60 sh417 (by decide) g61) rfl rfl ?_
              refine e_ld (pc' := 192) i155_191 rfl rfl ?_
              refine e_get (w := .ref 403) (pc' := 195) i155_192 rfl (x_isC (by decide) hn60 sh397) (x_fvR (by decide +kernel) (hL60 397 6 403 lk397_6)) ?_
              refine e_cn (pc' := 196) i155_195 rfl ?_
              refine e_ld (pc' := 198) i155_196 rfl rfl ?_
              refine e_ib (z := 2 * (gI h 407 b.toNatClampNeg)) (pc' := 199) i155_198 rfl rfl ?_
              refine e_cn (pc' := 200) i155_199 rfl ?_
              refine e_ib (z := (2 * (gI h 407 b.toNatClampNeg)) + 1) (pc' := 201) i155_200 rfl rfl ?_
              obtain ⟨g62, hP⟩ := hP
              refine e_al (n := ((2 * (gI h 407 b.toNatClampNeg)) + 1).toNatClampNeg) (w := .int (gI h 403 (((2 * (gI h 407 b.toNatClampNeg)) + 1).toNatClampNeg))) (pc' := 202) i155_201 rfl (x_alX (a := 20) (by decide) hn60 sh403 (by decide) g62) rfl (congrArg Value.int (Eq.trans (gI_obI (by decide)) (Eq.trans (gI_oaI (by decide)) (Eq.trans (gI_osI (by decide)) (Eq.trans (gI_osI (by decide)) (Eq.trans (gI_oaI (by decide)) (gI_oaI (by decide)))))))) ?_
              refine e_ib (z := (gI (bI (aI (sI (sI (aI (aI h 415 (((144 * a) + b).toNatClampNeg) 1) 414 (((144 * a) + b).toNatClampNeg) (gI h 399 ((gI h 407 b.toNatClampNeg).toNatClampNeg))) 416 (((144 * a) + b).toNatClampNeg) 0) 415 (((144 * a) + b).toNatClampNeg) 0) 433 b.toNatClampNeg 1) 417 ((2 * ((144 * a) + b)).toNatClampNeg) (gI h 403 ((2 * (gI h 407 b.toNatClampNeg)).toNatClampNeg))) 417 (((2 * ((144 * a) + b)) + 1).toNatClampNeg)) - (gI h 403 (((2 * (gI h 407 b.toNatClampNeg)) + 1).toNatClampNeg))) (pc' := 203) i155_202 rfl rfl ?_
              obtain ⟨g63, hP⟩ := hP
              refine e_as (n := ((2 * ((144 * a) + b)) + 1).toNatClampNeg) (h' := bI (bI (aI (sI (sI (aI (aI h 415 (((144 * a) + b).toNatClampNeg) 1) 414 (((144 * a) + b).toNatClampNeg) (gI h 399 ((gI h 407 b.toNatClampNeg).toNatClampNeg))) 416 (((144 * a) + b).toNatClampNeg) 0) 415 (((144 * a) + b).toNatClampNeg) 0) 433 b.toNatClampNeg 1) 417 ((2 * ((144 * a) + b)).toNatClampNeg) (gI h 403 ((2 * (gI h 407 b.toNatClampNeg)).toNatClampNeg))) 417 (((2 * ((144 * a) + b)) + 1).toNatClampNeg) (gI h 403 (((2 * (gI h 407 b.toNatClampNeg)) + 1).toNatClampNeg))) (pc' := 204) i155_203 rfl (x_alX (a := 20) (by decide) hn60 sh417 (by decide) g63) rfl (by rw [show (SH 417).1 = 20 by rw [sh417]]; rfl) ?_
              have hn64 : 444 ≤ (bI (bI (aI (sI (sI (aI (aI h 415 (((144 * a) + b).toNatClampNeg) 1) 414 (((144 * a) + b).toNatClampNeg) (gI h 399 ((gI h 407 b.toNatClampNeg).toNatClampNeg))) 416 (((144 * a) + b).toNatClampNeg) 0) 415 (((144 * a) + b).toNatClampNeg) 0) 433 b.toNatClampNeg 1) 417 ((2 * ((144 * a) + b)).toNatClampNeg) (gI h 403 ((2 * (gI h 407 b.toNatClampNeg)).toNatClampNeg))) 417 (((2 * ((144 * a) + b)) + 1).toNatClampNeg) (gI h 403 (((2 * (gI h 407 b.toNatClampNeg)) + 1).toNatClampNeg))).1 := le_bI hn60
              have hL64 : LK (bI (bI (aI (sI (sI (aI (aI h 415 (((144 * a) + b).toNatClampNeg) 1) 414 (((144 * a) + b).toNatClampNeg) (gI h 399 ((gI h 407 b.toNatClampNeg).toNatClampNeg))) 416 (((144 * a) + b).toNatClampNeg) 0) 415 (((144 * a) + b).toNatClampNeg) 0) 433 b.toNatClampNeg 1) 417 ((2 * ((144 * a) + b)).toNatClampNeg) (gI h 403 ((2 * (gI h 407 b.toNatClampNeg)).toNatClampNeg))) 417 (((2 * ((144 * a) + b)) + 1).toNatClampNeg) (gI h 403 (((2 * (gI h 407 b.toNatClampNeg)) + 1).toNatClampNeg))) := LK_bI hL60
              refine e_ld (pc' := 205) i155_204 rfl rfl ?_
              refine e_get (w := .ref 416) (pc' := 208) i155_205 rfl (x_isC (by decide) hn64 sh397) (x_fvR (by decide +kernel) (hL64 397 20 416 lk397_20)) ?_
              refine e_ld (pc' := 209) i155_208 rfl rfl ?_
              refine e_cn (pc' := 210) i155_209 rfl ?_
              obtain ⟨g65, hP⟩ := hP
              refine e_as (n := ((144 * a) + b).toNatClampNeg) (h' := sI (bI (bI (aI (sI (sI (aI (aI h 415 (((144 * a) + b).toNatClampNeg) 1) 414 (((144 * a) + b).toNatClampNeg) (gI h 399 ((gI h 407 b.toNatClampNeg).toNatClampNeg))) 416 (((144 * a) + b).toNatClampNeg) 0) 415 (((144 * a) + b).toNatClampNeg) 0) 433 b.toNatClampNeg 1) 417 ((2 * ((144 * a) + b)).toNatClampNeg) (gI h 403 ((2 * (gI h 407 b.toNatClampNeg)).toNatClampNeg))) 417 (((2 * ((144 * a) + b)) + 1).toNatClampNeg) (gI h 403 (((2 * (gI h 407 b.toNatClampNeg)) + 1).toNatClampNeg))) 416 (((144 * a) + b).toNatClampNeg) 1) (pc' := 211) i155_210 rfl (x_alX (a := 22) (by decide) hn64 sh416 (by decide) g65) rfl (by rw [show (SH 416).1 = 22 by rw [sh416]]; rfl) ?_
              have hn66 : 444 ≤ (sI (bI (bI (aI (sI (sI (aI (aI h 415 (((144 * a) + b).toNatClampNeg) 1) 414 (((144 * a) + b).toNatClampNeg) (gI h 399 ((gI h 407 b.toNatClampNeg).toNatClampNeg))) 416 (((144 * a) + b).toNatClampNeg) 0) 415 (((144 * a) + b).toNatClampNeg) 0) 433 b.toNatClampNeg 1) 417 ((2 * ((144 * a) + b)).toNatClampNeg) (gI h 403 ((2 * (gI h 407 b.toNatClampNeg)).toNatClampNeg))) 417 (((2 * ((144 * a) + b)) + 1).toNatClampNeg) (gI h 403 (((2 * (gI h 407 b.toNatClampNeg)) + 1).toNatClampNeg))) 416 (((144 * a) + b).toNatClampNeg) 1).1 := le_sI hn64
              have hL66 : LK (sI (bI (bI (aI (sI (sI (aI (aI h 415 (((144 * a) + b).toNatClampNeg) 1) 414 (((144 * a) + b).toNatClampNeg) (gI h 399 ((gI h 407 b.toNatClampNeg).toNatClampNeg))) 416 (((144 * a) + b).toNatClampNeg) 0) 415 (((144 * a) + b).toNatClampNeg) 0) 433 b.toNatClampNeg 1) 417 ((2 * ((144 * a) + b)).toNatClampNeg) (gI h 403 ((2 * (gI h 407 b.toNatClampNeg)).toNatClampNeg))) 417 (((2 * ((144 * a) + b)) + 1).toNatClampNeg) (gI h 403 (((2 * (gI h 407 b.toNatClampNeg)) + 1).toNatClampNeg))) 416 (((144 * a) + b).toNatClampNeg) 1) := LK_sI hL64
              refine e_ld (pc' := 212) i155_211 rfl rfl ?_
              refine e_get (w := .ref 415) (pc' := 215) i155_212 rfl (x_isC (by decide) hn66 sh397) (x_fvR (by decide +kernel) (hL66 397 19 415 lk397_19)) ?_
              refine e_ld (pc' := 216) i155_215 rfl rfl ?_
              refine e_cn (pc' := 217) i155_216 rfl ?_
              obtain ⟨g67, hP⟩ := hP
              refine e_as (n := ((144 * a) + b).toNatClampNeg) (h' := sI (sI (bI (bI (aI (sI (sI (aI (aI h 415 (((144 * a) + b).toNatClampNeg) 1) 414 (((144 * a) + b).toNatClampNeg) (gI h 399 ((gI h 407 b.toNatClampNeg).toNatClampNeg))) 416 (((144 * a) + b).toNatClampNeg) 0) 415 (((144 * a) + b).toNatClampNeg) 0) 433 b.toNatClampNeg 1) 417 ((2 * ((144 * a) + b)).toNatClampNeg) (gI h 403 ((2 * (gI h 407 b.toNatClampNeg)).toNatClampNeg))) 417 (((2 * ((144 * a) + b)) + 1).toNatClampNeg) (gI h 403 (((2 * (gI h 407 b.toNatClampNeg)) + 1).toNatClampNeg))) 416 (((144 * a) + b).toNatClampNeg) 1) 415 (((144 * a) + b).toNatClampNeg) 0) (pc' := 218) i155_217 rfl (x_alX (a := 20) (by decide) hn66 sh415 (by decide) g67) rfl (by rw [show (SH 415).1 = 20 by rw [sh415]]; rfl) ?_
              have hn68 : 444 ≤ (sI (sI (bI (bI (aI (sI (sI (aI (aI h 415 (((144 * a) + b).toNatClampNeg) 1) 414 (((144 * a) + b).toNatClampNeg) (gI h 399 ((gI h 407 b.toNatClampNeg).toNatClampNeg))) 416 (((144 * a) + b).toNatClampNeg) 0) 415 (((144 * a) + b).toNatClampNeg) 0) 433 b.toNatClampNeg 1) 417 ((2 * ((144 * a) + b)).toNatClampNeg) (gI h 403 ((2 * (gI h 407 b.toNatClampNeg)).toNatClampNeg))) 417 (((2 * ((144 * a) + b)) + 1).toNatClampNeg) (gI h 403 (((2 * (gI h 407 b.toNatClampNeg)) + 1).toNatClampNeg))) 416 (((144 * a) + b).toNatClampNeg) 1) 415 (((144 * a) + b).toNatClampNeg) 0).1 := le_sI hn66
              have hL68 : LK (sI (sI (bI (bI (aI (sI (sI (aI (aI h 415 (((144 * a) + b).toNatClampNeg) 1) 414 (((144 * a) + b).toNatClampNeg) (gI h 399 ((gI h 407 b.toNatClampNeg).toNatClampNeg))) 416 (((144 * a) + b).toNatClampNeg) 0) 415 (((144 * a) + b).toNatClampNeg) 0) 433 b.toNatClampNeg 1) 417 ((2 * ((144 * a) + b)).toNatClampNeg) (gI h 403 ((2 * (gI h 407 b.toNatClampNeg)).toNatClampNeg))) 417 (((2 * ((144 * a) + b)) + 1).toNatClampNeg) (gI h 403 (((2 * (gI h 407 b.toNatClampNeg)) + 1).toNatClampNeg))) 416 (((144 * a) + b).toNatClampNeg) 1) 415 (((144 * a) + b).toNatClampNeg) 0) := LK_sI hL66
              refine e_rt i155_218 rfl ?_
              exact ⟨rfl, by unfold G155; simp only [if_neg (show ¬ ((gI h 416 (((144 * a) + b).toNatClampNeg)) = 0) from (of_decide_eq_false c3)), if_pos (show (gI (aI h 415 (((144 * a) + b).toNatClampNeg) 1) 415 (((144 * a) + b).toNatClampNeg)) = (gI h 401 ((gI h 407 b.toNatClampNeg).toNatClampNeg)) from (Decidable.not_not.mp (of_decide_eq_false c32))), if_pos (show (gI (sI (aI (aI h 415 (((144 * a) + b).toNatClampNeg) 1) 414 (((144 * a) + b).toNatClampNeg) (gI h 399 ((gI h 407 b.toNatClampNeg).toNatClampNeg))) 416 (((144 * a) + b).toNatClampNeg) 0) 416 (((144 * a) + b).toNatClampNeg)) = 0 from (Decidable.not_not.mp (of_decide_eq_false c47))), if_neg (show ¬ ((gI h 399 ((gI h 407 b.toNatClampNeg).toNatClampNeg)) < (gI (aI (aI h 415 (((144 * a) + b).toNatClampNeg) 1) 414 (((144 * a) + b).toNatClampNeg) (gI h 399 ((gI h 407 b.toNatClampNeg).toNatClampNeg))) 414 (((144 * a) + b).toNatClampNeg))) from (of_decide_eq_false c50)), if_neg (show ¬ ((gI h 417 ((2 * ((144 * a) + b)).toNatClampNeg)) < (gI h 403 ((2 * (gI h 407 b.toNatClampNeg)).toNatClampNeg))) from (of_decide_eq_false c53)), if_neg (show ¬ ((gI h 417 (((2 * ((144 * a) + b)) + 1).toNatClampNeg)) < (gI h 403 (((2 * (gI h 407 b.toNatClampNeg)) + 1).toNatClampNeg))) from (of_decide_eq_false c56))]⟩
