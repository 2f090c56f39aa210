/-! The reference's methods without loops, as functions. -/
/-- FloorTurnModel.lays(IIIII)V -/
def G133 (a : Int32) (b : Int32) (c : Int32) (d : Int32) (e : Int32) (h : Hp) : Hp := sI (sI (sI (sI (sI (sI (sI (sI (sI (sI (sI (sI (sI (sI (sI h 405 a.toNatClampNeg b) 406 a.toNatClampNeg (if b = 7 then (0) else (c))) 407 a.toNatClampNeg (if b = 5 then (d) else (if b = 6 then (d) else (0)))) 408 a.toNatClampNeg (if b = 5 then (e) else (0))) 409 a.toNatClampNeg 0) 410 a.toNatClampNeg 0) 412 a.toNatClampNeg 0) 413 a.toNatClampNeg 0) 414 a.toNatClampNeg 0) 415 a.toNatClampNeg 0) 416 a.toNatClampNeg 0) 417 ((2 * a).toNatClampNeg) 0) 417 (((2 * a) + 1).toNatClampNeg) 0) 418 a.toNatClampNeg 3) 419 a.toNatClampNeg 3
theorem n_G133 (a : Int32) (b : Int32) (c : Int32) (d : Int32) (e : Int32) (h : Hp) : (G133 a b c d e h).1 = h.1 := by
  unfold G133
  (repeat' split) <;> first | (simp only [n_sI, n_aI, n_bI, n_sL, n_sR]; done) | rfl
theorem r_G133 (a : Int32) (b : Int32) (c : Int32) (d : Int32) (e : Int32) (h : Hp) : gR (G133 a b c d e h) = gR h := by
  unfold G133
  (repeat' split) <;> first | (simp only [gR_sI, gR_aI, gR_bI, gR_sL]; done) | rfl
def P133 (a : Int32) (b : Int32) (c : Int32) (d : Int32) (e : Int32) (h : Hp) : Prop := (vp_in a 144) ∧ ((vp_in a 144) ∧ ((vp_in a 144) ∧ ((vp_in a 144) ∧ ((vp_in a 144) ∧ ((vp_in a 144) ∧ ((vp_in a 432) ∧ ((vp_in a 432) ∧ ((vp_in a 432) ∧ ((vp_in a 432) ∧ ((vp_in a 432) ∧ ((vp_in (2 * a) 864) ∧ ((vp_in ((2 * a) + 1) 864) ∧ ((vp_in a 432) ∧ ((vp_in a 432) ∧ (True)))))))))))))))
set_option maxHeartbeats 8000000 in
set_option maxRecDepth 100000 in
theorem m133 {L : Nat} {xs : Nat → Int32} {h : Hp} {a : Int32} {b : Int32} {c : Int32} {d : Int32} {e : Int32} (hn : 444 ≤ h.1) (hL : LK h) (hP : P133 a b c d e h) : Sp L xs 133 [.ref 397, .int a, .int b, .int c, .int d, .int e] h none (G133 a b c d e h) := by
  unfold P133 at hP
  refine sp_of (ls := [some (.ref 397), some (.int a), some (.int b), some (.int c), some (.int d), some (.int e)]) rfl ?_
  refine e_ld (pc' := 1) i133_0 rfl rfl ?_
  refine e_get (w := .ref 405) (pc' := 4) i133_1 rfl (x_isC (by decide) hn sh397) (x_fvR (by decide +kernel) (hL 397 8 405 lk397_8)) ?_
  refine e_ld (pc' := 5) i133_4 rfl rfl ?_
  refine e_ld (pc' := 6) i133_5 rfl rfl ?_
  obtain ⟨g1, hP⟩ := hP
  refine e_as (n := a.toNatClampNeg) (h' := sI h 405 a.toNatClampNeg b) (pc' := 7) i133_6 rfl (x_alX (a := 20) (by decide) hn sh405 (by decide) g1) rfl (by rw [show (SH 405).1 = 20 by rw [sh405]]; rfl) ?_
  have hn2 : 444 ≤ (sI h 405 a.toNatClampNeg b).1 := le_sI hn
  have hL2 : LK (sI h 405 a.toNatClampNeg b) := LK_sI hL
  refine e_ld (pc' := 8) i133_7 rfl rfl ?_
  refine e_get (w := .ref 406) (pc' := 11) i133_8 rfl (x_isC (by decide) hn2 sh397) (x_fvR (by decide +kernel) (hL2 397 9 406 lk397_9)) ?_
  refine e_ld (pc' := 12) i133_11 rfl rfl ?_
  refine e_ld (pc' := 13) i133_12 rfl rfl ?_
  refine e_cn (pc' := 15) i133_13 rfl ?_
  refine e_reg (pc' := 23) (ls' := [some (.ref 397), some (.int a), some (.int b), some (.int c), some (.int d), some (.int e)]) (st' := [.int (if b = 7 then (0) else (c)), .int a, .ref 406]) (fun kj3 => ?_) ?_
  · skip
    refine e_ic (pc' := 18) i133_15 rfl (fun c4 => ?_) (fun c4 => ?_)
    · skip
      refine e_ld (pc' := 23) i133_22 rfl rfl ?_
      exact (by simp only [if_neg (show ¬ (b = 7) from (of_decide_eq_true c4))] at kj3 ⊢; exact kj3)
    · skip
      refine e_cn (pc' := 19) i133_18 rfl ?_
      refine e_go i133_19 ?_
      exact (by simp only [if_pos (show b = 7 from (Decidable.not_not.mp (of_decide_eq_false c4)))] at kj3 ⊢; exact kj3)
  obtain ⟨g5, hP⟩ := hP
  refine e_as (n := a.toNatClampNeg) (h' := sI (sI h 405 a.toNatClampNeg b) 406 a.toNatClampNeg (if b = 7 then (0) else (c))) (pc' := 24) i133_23 rfl (x_alX (a := 20) (by decide) hn2 sh406 (by decide) g5) rfl (by rw [show (SH 406).1 = 20 by rw [sh406]]; rfl) ?_
  have hn6 : 444 ≤ (sI (sI h 405 a.toNatClampNeg b) 406 a.toNatClampNeg (if b = 7 then (0) else (c))).1 := le_sI hn2
  have hL6 : LK (sI (sI h 405 a.toNatClampNeg b) 406 a.toNatClampNeg (if b = 7 then (0) else (c))) := LK_sI hL2
  refine e_ld (pc' := 25) i133_24 rfl rfl ?_
  refine e_get (w := .ref 407) (pc' := 28) i133_25 rfl (x_isC (by decide) hn6 sh397) (x_fvR (by decide +kernel) (hL6 397 10 407 lk397_10)) ?_
  refine e_ld (pc' := 29) i133_28 rfl rfl ?_
  refine e_ld (pc' := 30) i133_29 rfl rfl ?_
  refine e_cn (pc' := 31) i133_30 rfl ?_
  refine e_reg (pc' := 46) (ls' := [some (.ref 397), some (.int a), some (.int b), some (.int c), some (.int d), some (.int e)]) (st' := [.int (if b = 5 then (d) else (if b = 6 then (d) else (0))), .int a, .ref 407]) (fun kj7 => ?_) ?_
  · skip
    refine e_ic (pc' := 34) i133_31 rfl (fun c8 => ?_) (fun c8 => ?_)
    · skip
      refine e_ld (pc' := 42) i133_40 rfl rfl ?_
      refine e_go i133_42 ?_
      exact (by simp only [if_pos (show b = 5 from (of_decide_eq_true c8))] at kj7 ⊢; exact kj7)
    · skip
      refine e_ld (pc' := 35) i133_34 rfl rfl ?_
      refine e_cn (pc' := 37) i133_35 rfl ?_
      refine e_reg (pc' := 46) (ls' := [some (.ref 397), some (.int a), some (.int b), some (.int c), some (.int d), some (.int e)]) (st' := [.int (if b = 6 then (d) else (0)), .int a, .ref 407]) (fun kj9 => ?_) ?_
      · skip
        refine e_ic (pc' := 40) i133_37 rfl (fun c10 => ?_) (fun c10 => ?_)
        · skip
          refine e_cn (pc' := 46) i133_45 rfl ?_
          exact (by simp only [if_neg (show ¬ (b = 6) from (of_decide_eq_true c10))] at kj9 ⊢; exact kj9)
        · skip
          refine e_ld (pc' := 42) i133_40 rfl rfl ?_
          refine e_go i133_42 ?_
          exact (by simp only [if_pos (show b = 6 from (Decidable.not_not.mp (of_decide_eq_false c10)))] at kj9 ⊢; exact kj9)
      exact (by simp only [if_neg (show ¬ (b = 5) from (of_decide_eq_false c8))] at kj7 ⊢; exact kj7)
  obtain ⟨g11, hP⟩ := hP
  refine e_as (n := a.toNatClampNeg) (h' := sI (sI (sI h 405 a.toNatClampNeg b) 406 a.toNatClampNeg (if b = 7 then (0) else (c))) 407 a.toNatClampNeg (if b = 5 then (d) else (if b = 6 then (d) else (0)))) (pc' := 47) i133_46 rfl (x_alX (a := 20) (by decide) hn6 sh407 (by decide) g11) rfl (by rw [show (SH 407).1 = 20 by rw [sh407]]; rfl) ?_
  have hn12 : 444 ≤ (sI (sI (sI h 405 a.toNatClampNeg b) 406 a.toNatClampNeg (if b = 7 then (0) else (c))) 407 a.toNatClampNeg (if b = 5 then (d) else (if b = 6 then (d) else (0)))).1 := le_sI hn6
  have hL12 : LK (sI (sI (sI h 405 a.toNatClampNeg b) 406 a.toNatClampNeg (if b = 7 then (0) else (c))) 407 a.toNatClampNeg (if b = 5 then (d) else (if b = 6 then (d) else (0)))) := LK_sI hL6
  refine e_ld (pc' := 48) i133_47 rfl rfl ?_
  refine e_get (w := .ref 408) (pc' := 51) i133_48 rfl (x_isC (by decide) hn12 sh397) (x_fvR (by decide +kernel) (hL12 397 11 408 lk397_11)) ?_
  refine e_ld (pc' := 52) i133_51 rfl rfl ?_
  refine e_ld (pc' := 53) i133_52 rfl rfl ?_
  refine e_cn (pc' := 54) i133_53 rfl ?_
  refine e_reg (pc' := 63) (ls' := [some (.ref 397), some (.int a), some (.int b), some (.int c), some (.int d), some (.int e)]) (st' := [.int (if b = 5 then (e) else (0)), .int a, .ref 408]) (fun kj13 => ?_) ?_
  · skip
    refine e_ic (pc' := 57) i133_54 rfl (fun c14 => ?_) (fun c14 => ?_)
    · skip
      refine e_cn (pc' := 63) i133_62 rfl ?_
      exact (by simp only [if_neg (show ¬ (b = 5) from (of_decide_eq_true c14))] at kj13 ⊢; exact kj13)
    · skip
      refine e_ld (pc' := 59) i133_57 rfl rfl ?_
      refine e_go i133_59 ?_
      exact (by simp only [if_pos (show b = 5 from (Decidable.not_not.mp (of_decide_eq_false c14)))] at kj13 ⊢; exact kj13)
  obtain ⟨g15, hP⟩ := hP
  refine e_as (n := a.toNatClampNeg) (h' := sI (sI (sI (sI h 405 a.toNatClampNeg b) 406 a.toNatClampNeg (if b = 7 then (0) else (c))) 407 a.toNatClampNeg (if b = 5 then (d) else (if b = 6 then (d) else (0)))) 408 a.toNatClampNeg (if b = 5 then (e) else (0))) (pc' := 64) i133_63 rfl (x_alX (a := 20) (by decide) hn12 sh408 (by decide) g15) rfl (by rw [show (SH 408).1 = 20 by rw [sh408]]; rfl) ?_
  have hn16 : 444 ≤ (sI (sI (sI (sI h 405 a.toNatClampNeg b) 406 a.toNatClampNeg (if b = 7 then (0) else (c))) 407 a.toNatClampNeg (if b = 5 then (d) else (if b = 6 then (d) else (0)))) 408 a.toNatClampNeg (if b = 5 then (e) else (0))).1 := le_sI hn12
  have hL16 : LK (sI (sI (sI (sI h 405 a.toNatClampNeg b) 406 a.toNatClampNeg (if b = 7 then (0) else (c))) 407 a.toNatClampNeg (if b = 5 then (d) else (if b = 6 then (d) else (0)))) 408 a.toNatClampNeg (if b = 5 then (e) else (0))) := LK_sI hL12
  refine e_ld (pc' := 65) i133_64 rfl rfl ?_
  refine e_get (w := .ref 409) (pc' := 68) i133_65 rfl (x_isC (by decide) hn16 sh397) (x_fvR (by decide +kernel) (hL16 397 12 409 lk397_12)) ?_
  refine e_ld (pc' := 69) i133_68 rfl rfl ?_
  refine e_cn (pc' := 70) i133_69 rfl ?_
  obtain ⟨g17, hP⟩ := hP
  refine e_as (n := a.toNatClampNeg) (h' := sI (sI (sI (sI (sI h 405 a.toNatClampNeg b) 406 a.toNatClampNeg (if b = 7 then (0) else (c))) 407 a.toNatClampNeg (if b = 5 then (d) else (if b = 6 then (d) else (0)))) 408 a.toNatClampNeg (if b = 5 then (e) else (0))) 409 a.toNatClampNeg 0) (pc' := 71) i133_70 rfl (x_alX (a := 20) (by decide) hn16 sh409 (by decide) g17) rfl (by rw [show (SH 409).1 = 20 by rw [sh409]]; rfl) ?_
  have hn18 : 444 ≤ (sI (sI (sI (sI (sI h 405 a.toNatClampNeg b) 406 a.toNatClampNeg (if b = 7 then (0) else (c))) 407 a.toNatClampNeg (if b = 5 then (d) else (if b = 6 then (d) else (0)))) 408 a.toNatClampNeg (if b = 5 then (e) else (0))) 409 a.toNatClampNeg 0).1 := le_sI hn16
  have hL18 : LK (sI (sI (sI (sI (sI h 405 a.toNatClampNeg b) 406 a.toNatClampNeg (if b = 7 then (0) else (c))) 407 a.toNatClampNeg (if b = 5 then (d) else (if b = 6 then (d) else (0)))) 408 a.toNatClampNeg (if b = 5 then (e) else (0))) 409 a.toNatClampNeg 0) := LK_sI hL16
  refine e_ld (pc' := 72) i133_71 rfl rfl ?_
  refine e_get (w := .ref 410) (pc' := 75) i133_72 rfl (x_isC (by decide) hn18 sh397) (x_fvR (by decide +kernel) (hL18 397 13 410 lk397_13)) ?_
  refine e_ld (pc' := 76) i133_75 rfl rfl ?_
  refine e_cn (pc' := 77) i133_76 rfl ?_
  obtain ⟨g19, hP⟩ := hP
  refine e_as (n := a.toNatClampNeg) (h' := sI (sI (sI (sI (sI (sI h 405 a.toNatClampNeg b) 406 a.toNatClampNeg (if b = 7 then (0) else (c))) 407 a.toNatClampNeg (if b = 5 then (d) else (if b = 6 then (d) else (0)))) 408 a.toNatClampNeg (if b = 5 then (e) else (0))) 409 a.toNatClampNeg 0) 410 a.toNatClampNeg 0) (pc' := 78) i133_77 rfl (x_alX (a := 20) (by decide) hn18 sh410 (by decide) g19) rfl (by rw [show (SH 410).1 = 20 by rw [sh410]]; rfl) ?_
  have hn20 : 444 ≤ (sI (sI (sI (sI (sI (sI h 405 a.toNatClampNeg b) 406 a.toNatClampNeg (if b = 7 then (0) else (c))) 407 a.toNatClampNeg (if b = 5 then (d) else (if b = 6 then (d) else (0)))) 408 a.toNatClampNeg (if b = 5 then (e) else (0))) 409 a.toNatClampNeg 0) 410 a.toNatClampNeg 0).1 := le_sI hn18
  have hL20 : LK (sI (sI (sI (sI (sI (sI h 405 a.toNatClampNeg b) 406 a.toNatClampNeg (if b = 7 then (0) else (c))) 407 a.toNatClampNeg (if b = 5 then (d) else (if b = 6 then (d) else (0)))) 408 a.toNatClampNeg (if b = 5 then (e) else (0))) 409 a.toNatClampNeg 0) 410 a.toNatClampNeg 0) := LK_sI hL18
  refine e_ld (pc' := 79) i133_78 rfl rfl ?_
  refine e_get (w := .ref 412) (pc' := 82) i133_79 rfl (x_isC (by decide) hn20 sh397) (x_fvR (by decide +kernel) (hL20 397 16 412 lk397_16)) ?_
  refine e_ld (pc' := 83) i133_82 rfl rfl ?_
  refine e_cn (pc' := 84) i133_83 rfl ?_
  obtain ⟨g21, hP⟩ := hP
  refine e_as (n := a.toNatClampNeg) (h' := sI (sI (sI (sI (sI (sI (sI h 405 a.toNatClampNeg b) 406 a.toNatClampNeg (if b = 7 then (0) else (c))) 407 a.toNatClampNeg (if b = 5 then (d) else (if b = 6 then (d) else (0)))) 408 a.toNatClampNeg (if b = 5 then (e) else (0))) 409 a.toNatClampNeg 0) 410 a.toNatClampNeg 0) 412 a.toNatClampNeg 0) (pc' := 85) i133_84 rfl (x_alX (a := 20) (by decide) hn20 sh412 (by decide) g21) rfl (by rw [show (SH 412).1 = 20 by rw [sh412]]; rfl) ?_
  have hn22 : 444 ≤ (sI (sI (sI (sI (sI (sI (sI h 405 a.toNatClampNeg b) 406 a.toNatClampNeg (if b = 7 then (0) else (c))) 407 a.toNatClampNeg (if b = 5 then (d) else (if b = 6 then (d) else (0)))) 408 a.toNatClampNeg (if b = 5 then (e) else (0))) 409 a.toNatClampNeg 0) 410 a.toNatClampNeg 0) 412 a.toNatClampNeg 0).1 := le_sI hn20
  have hL22 : LK (sI (sI (sI (sI (sI (sI (sI h 405 a.toNatClampNeg b) 406 a.toNatClampNeg (if b = 7 then (0) else (c))) 407 a.toNatClampNeg (if b = 5 then (d) else (if b = 6 then (d) else (0)))) 408 a.toNatClampNeg (if b = 5 then (e) else (0))) 409 a.toNatClampNeg 0) 410 a.toNatClampNeg 0) 412 a.toNatClampNeg 0) := LK_sI hL20
  refine e_ld (pc' := 86) i133_85 rfl rfl ?_
  refine e_get (w := .ref 413) (pc' := 89) i133_86 rfl (x_isC (by decide) hn22 sh397) (x_fvR (by decide +kernel) (hL22 397 17 413 lk397_17)) ?_
  refine e_ld (pc' := 90) i133_89 rfl rfl ?_
  refine e_cn (pc' := 91) i133_90 rfl ?_
  obtain ⟨g23, hP⟩ := hP
  refine e_as (n := a.toNatClampNeg) (h' := sI (sI (sI (sI (sI (sI (sI (sI h 405 a.toNatClampNeg b) 406 a.toNatClampNeg (if b = 7 then (0) else (c))) 407 a.toNatClampNeg (if b = 5 then (d) else (if b = 6 then (d) else (0)))) 408 a.toNatClampNeg (if b = 5 then (e) else (0))) 409 a.toNatClampNeg 0) 410 a.toNatClampNeg 0) 412 a.toNatClampNeg 0) 413 a.toNatClampNeg 0) (pc' := 92) i133_91 rfl (x_alX (a := 20) (by decide) hn22 sh413 (by decide) g23) rfl (by rw [show (SH 413).1 = 20 by rw [sh413]]; rfl) ?_
  have hn24 : 444 ≤ (sI (sI (sI (sI (sI (sI (sI (sI h 405 a.toNatClampNeg b) 406 a.toNatClampNeg (if b = 7 then (0) else (c))) 407 a.toNatClampNeg (if b = 5 then (d) else (if b = 6 then (d) else (0)))) 408 a.toNatClampNeg (if b = 5 then (e) else (0))) 409 a.toNatClampNeg 0) 410 a.toNatClampNeg 0) 412 a.toNatClampNeg 0) 413 a.toNatClampNeg 0).1 := le_sI hn22
  have hL24 : LK (sI (sI (sI (sI (sI (sI (sI (sI h 405 a.toNatClampNeg b) 406 a.toNatClampNeg (if b = 7 then (0) else (c))) 407 a.toNatClampNeg (if b = 5 then (d) else (if b = 6 then (d) else (0)))) 408 a.toNatClampNeg (if b = 5 then (e) else (0))) 409 a.toNatClampNeg 0) 410 a.toNatClampNeg 0) 412 a.toNatClampNeg 0) 413 a.toNatClampNeg 0) := LK_sI hL22
  refine e_ld (pc' := 93) i133_92 rfl rfl ?_
  refine e_get (w := .ref 414) (pc' := 96) i133_93 rfl (x_isC (by decide) hn24 sh397) (x_fvR (by decide +kernel) (hL24 397 18 414 lk397_18)) ?_
  refine e_ld (pc' := 97) i133_96 rfl rfl ?_
  refine e_cn (pc' := 98) i133_97 rfl ?_
  obtain ⟨g25, hP⟩ := hP
  refine e_as (n := a.toNatClampNeg) (h' := sI (sI (sI (sI (sI (sI (sI (sI (sI h 405 a.toNatClampNeg b) 406 a.toNatClampNeg (if b = 7 then (0) else (c))) 407 a.toNatClampNeg (if b = 5 then (d) else (if b = 6 then (d) else (0)))) 408 a.toNatClampNeg (if b = 5 then (e) else (0))) 409 a.toNatClampNeg 0) 410 a.toNatClampNeg 0) 412 a.toNatClampNeg 0) 413 a.toNatClampNeg 0) 414 a.toNatClampNeg 0) (pc' := 99) i133_98 rfl (x_alX (a := 20) (by decide) hn24 sh414 (by decide) g25) rfl (by rw [show (SH 414).1 = 20 by rw [sh414]]; rfl) ?_
  have hn26 : 444 ≤ (sI (sI (sI (sI (sI (sI (sI (sI (sI h 405 a.toNatClampNeg b) 406 a.toNatClampNeg (if b = 7 then (0) else (c))) 407 a.toNatClampNeg (if b = 5 then (d) else (if b = 6 then (d) else (0)))) 408 a.toNatClampNeg (if b = 5 then (e) else (0))) 409 a.toNatClampNeg 0) 410 a.toNatClampNeg 0) 412 a.toNatClampNeg 0) 413 a.toNatClampNeg 0) 414 a.toNatClampNeg 0).1 := le_sI hn24
  have hL26 : LK (sI (sI (sI (sI (sI (sI (sI (sI (sI h 405 a.toNatClampNeg b) 406 a.toNatClampNeg (if b = 7 then (0) else (c))) 407 a.toNatClampNeg (if b = 5 then (d) else (if b = 6 then (d) else (0)))) 408 a.toNatClampNeg (if b = 5 then (e) else (0))) 409 a.toNatClampNeg 0) 410 a.toNatClampNeg 0) 412 a.toNatClampNeg 0) 413 a.toNatClampNeg 0) 414 a.toNatClampNeg 0) := LK_sI hL24
  refine e_ld (pc' := 100) i133_99 rfl rfl ?_
  refine e_get (w := .ref 415) (pc' := 103) i133_100 rfl (x_isC (by decide) hn26 sh397) (x_fvR (by decide +kernel) (hL26 397 19 415 lk397_19)) ?_
  refine e_ld (pc' := 104) i133_103 rfl rfl ?_
  refine e_cn (pc' := 105) i133_104 rfl ?_
  obtain ⟨g27, hP⟩ := hP
  refine e_as (n := a.toNatClampNeg) (h' := sI (sI (sI (sI (sI (sI (sI (sI (sI (sI h 405 a.toNatClampNeg b) 406 a.toNatClampNeg (if b = 7 then (0) else (c))) 407 a.toNatClampNeg (if b = 5 then (d) else (if b = 6 then (d) else (0)))) 408 a.toNatClampNeg (if b = 5 then (e) else (0))) 409 a.toNatClampNeg 0) 410 a.toNatClampNeg 0) 412 a.toNatClampNeg 0) 413 a.toNatClampNeg 0) 414 a.toNatClampNeg 0) 415 a.toNatClampNeg 0) (pc' := 106) i133_105 rfl (x_alX (a := 20) (by decide) hn26 sh415 (by decide) g27) rfl (by rw [show (SH 415).1 = 20 by rw [sh415]]; rfl) ?_
  have hn28 : 444 ≤ (sI (sI (sI (sI (sI (sI (sI (sI (sI (sI h 405 a.toNatClampNeg b) 406 a.toNatClampNeg (if b = 7 then (0) else (c))) 407 a.toNatClampNeg (if b = 5 then (d) else (if b = 6 then (d) else (0)))) 408 a.toNatClampNeg (if b = 5 then (e) else (0))) 409 a.toNatClampNeg 0) 410 a.toNatClampNeg 0) 412 a.toNatClampNeg 0) 413 a.toNatClampNeg 0) 414 a.toNatClampNeg 0) 415 a.toNatClampNeg 0).1 := le_sI hn26
  have hL28 : LK (sI (sI (sI (sI (sI (sI (sI (sI (sI (sI h 405 a.toNatClampNeg b) 406 a.toNatClampNeg (if b = 7 then (0) else (c))) 407 a.toNatClampNeg (if b = 5 then (d) else (if b = 6 then (d) else (0)))) 408 a.toNatClampNeg (if b = 5 then (e) else (0))) 409 a.toNatClampNeg 0) 410 a.toNatClampNeg 0) 412 a.toNatClampNeg 0) 413 a.toNatClampNeg 0) 414 a.toNatClampNeg 0) 415 a.toNatClampNeg 0) := LK_sI hL26
  refine e_ld (pc' := 107) i133_106 rfl rfl ?_
  refine e_get (w := .ref 416) (pc' := 110) i133_107 rfl (x_isC (by decide) hn28 sh397) (x_fvR (by decide +kernel) (hL28 397 20 416 lk397_20)) ?_
  refine e_ld (pc' := 111) i133_110 rfl rfl ?_
  refine e_cn (pc' := 112) i133_111 rfl ?_
  obtain ⟨g29, hP⟩ := hP
  refine e_as (n := a.toNatClampNeg) (h' := sI (sI (sI (sI (sI (sI (sI (sI (sI (sI (sI h 405 a.toNatClampNeg b) 406 a.toNatClampNeg (if b = 7 then (0) else (c))) 407 a.toNatClampNeg (if b = 5 then (d) else (if b = 6 then (d) else (0)))) 408 a.toNatClampNeg (if b = 5 then (e) else (0))) 409 a.toNatClampNeg 0) 410 a.toNatClampNeg 0) 412 a.toNatClampNeg 0) 413 a.toNatClampNeg 0) 414 a.toNatClampNeg 0) 415 a.toNatClampNeg 0) 416 a.toNatClampNeg 0) (pc' := 113) i133_112 rfl (x_alX (a := 22) (by decide) hn28 sh416 (by decide) g29) rfl (by rw [show (SH 416).1 = 22 by rw [sh416]]; rfl) ?_
  have hn30 : 444 ≤ (sI (sI (sI (sI (sI (sI (sI (sI (sI (sI (sI h 405 a.toNatClampNeg b) 406 a.toNatClampNeg (if b = 7 then (0) else (c))) 407 a.toNatClampNeg (if b = 5 then (d) else (if b = 6 then (d) else (0)))) 408 a.toNatClampNeg (if b = 5 then (e) else (0))) 409 a.toNatClampNeg 0) 410 a.toNatClampNeg 0) 412 a.toNatClampNeg 0) 413 a.toNatClampNeg 0) 414 a.toNatClampNeg 0) 415 a.toNatClampNeg 0) 416 a.toNatClampNeg 0).1 := le_sI hn28
  have hL30 : LK (sI (sI (sI (sI (sI (sI (sI (sI (sI (sI (sI h 405 a.toNatClampNeg b) 406 a.toNatClampNeg (if b = 7 then (0) else (c))) 407 a.toNatClampNeg (if b = 5 then (d) else (if b = 6 then (d) else (0)))) 408 a.toNatClampNeg (if b = 5 then (e) else (0))) 409 a.toNatClampNeg 0) 410 a.toNatClampNeg 0) 412 a.toNatClampNeg 0) 413 a.toNatClampNeg 0) 414 a.toNatClampNeg 0) 415 a.toNatClampNeg 0) 416 a.toNatClampNeg 0) := LK_sI hL28
  refine e_ld (pc' := 114) i133_113 rfl rfl ?_
  refine e_get (w := .ref 417) (pc' := 117) i133_114 rfl (x_isC (by decide) hn30 sh397) (x_fvR (by decide +kernel) (hL30 397 21 417 lk397_21)) ?_
  refine e_cn (pc' := 118) i133_117 rfl ?_
  refine e_ld (pc' := 119) i133_118 rfl rfl ?_
  refine e_ib (z := 2 * a) (pc' := 120) i133_119 rfl rfl ?_
  refine e_cn (pc' := 121) i133_120 rfl ?_
  obtain ⟨g31, hP⟩ := hP
  refine e_as (n := (2 * a).toNatClampNeg) (h' := sI (sI (sI (sI (sI (sI (sI (sI (sI (sI (sI (sI h 405 a.toNatClampNeg b) 406 a.toNatClampNeg (if b = 7 then (0) else (c))) 407 a.toNatClampNeg (if b = 5 then (d) else (if b = 6 then (d) else (0)))) 408 a.toNatClampNeg (if b = 5 then (e) else (0))) 409 a.toNatClampNeg 0) 410 a.toNatClampNeg 0) 412 a.toNatClampNeg 0) 413 a.toNatClampNeg 0) 414 a.toNatClampNeg 0) 415 a.toNatClampNeg 0) 416 a.toNatClampNeg 0) 417 ((2 * a).toNatClampNeg) 0) (pc' := 122) i133_121 rfl (x_alX (a := 20) (by decide) hn30 sh417 (by decide) g31) rfl (by rw [show (SH 417).1 = 20 by rw [sh417]]; rfl) ?_
  have hn32 : 444 ≤ (sI (sI (sI (sI (sI (sI (sI (sI (sI (sI (sI (sI h 405 a.toNatClampNeg b) 406 a.toNatClampNeg (if b = 7 then (0) else (c))) 407 a.toNatClampNeg (if b = 5 then (d) else (if b = 6 then (d) else (0)))) 408 a.toNatClampNeg (if b = 5 then (e) else (0))) 409 a.toNatClampNeg 0) 410 a.toNatClampNeg 0) 412 a.toNatClampNeg 0) 413 a.toNatClampNeg 0) 414 a.toNatClampNeg 0) 415 a.toNatClampNeg 0) 416 a.toNatClampNeg 0) 417 ((2 * a).toNatClampNeg) 0).1 := le_sI hn30
  have hL32 : LK (sI (sI (sI (sI (sI (sI (sI (sI (sI (sI (sI (sI h 405 a.toNatClampNeg b) 406 a.toNatClampNeg (if b = 7 then (0) else (c))) 407 a.toNatClampNeg (if b = 5 then (d) else (if b = 6 then (d) else (0)))) 408 a.toNatClampNeg (if b = 5 then (e) else (0))) 409 a.toNatClampNeg 0) 410 a.toNatClampNeg 0) 412 a.toNatClampNeg 0) 413 a.toNatClampNeg 0) 414 a.toNatClampNeg 0) 415 a.toNatClampNeg 0) 416 a.toNatClampNeg 0) 417 ((2 * a).toNatClampNeg) 0) := LK_sI hL30
  refine e_ld (pc' := 123) i133_122 rfl rfl ?_
  refine e_get (w := .ref 417) (pc' := 126) i133_123 rfl (x_isC (by decide) hn32 sh397) (x_fvR (by decide +kernel) (hL32 397 21 417 lk397_21)) ?_
  refine e_cn (pc' := 127) i133_126 rfl ?_
  refine e_ld (pc' := 128) i133_127 rfl rfl ?_
  refine e_ib (z := 2 * a) (pc' := 129) i133_128 rfl rfl ?_
  refine e_cn (pc' := 130) i133_129 rfl ?_
  refine e_ib (z := (2 * a) + 1) (pc' := 131) i133_130 rfl rfl ?_
  refine e_cn (pc' := 132) i133_131 rfl ?_
  obtain ⟨g33, hP⟩ := hP
  refine e_as (n := ((2 * a) + 1).toNatClampNeg) (h' := sI (sI (sI (sI (sI (sI (sI (sI (sI (sI (sI (sI (sI h 405 a.toNatClampNeg b) 406 a.toNatClampNeg (if b = 7 then (0) else (c))) 407 a.toNatClampNeg (if b = 5 then (d) else (if b = 6 then (d) else (0)))) 408 a.toNatClampNeg (if b = 5 then (e) else (0))) 409 a.toNatClampNeg 0) 410 a.toNatClampNeg 0) 412 a.toNatClampNeg 0) 413 a.toNatClampNeg 0) 414 a.toNatClampNeg 0) 415 a.toNatClampNeg 0) 416 a.toNatClampNeg 0) 417 ((2 * a).toNatClampNeg) 0) 417 (((2 * a) + 1).toNatClampNeg) 0) (pc' := 133) i133_132 rfl (x_alX (a := 20) (by decide) hn32 sh417 (by decide) g33) rfl (by rw [show (SH 417).1 = 20 by rw [sh417]]; rfl) ?_
  have hn34 : 444 ≤ (sI (sI (sI (sI (sI (sI (sI (sI (sI (sI (sI (sI (sI h 405 a.toNatClampNeg b) 406 a.toNatClampNeg (if b = 7 then (0) else (c))) 407 a.toNatClampNeg (if b = 5 then (d) else (if b = 6 then (d) else (0)))) 408 a.toNatClampNeg (if b = 5 then (e) else (0))) 409 a.toNatClampNeg 0) 410 a.toNatClampNeg 0) 412 a.toNatClampNeg 0) 413 a.toNatClampNeg 0) 414 a.toNatClampNeg 0) 415 a.toNatClampNeg 0) 416 a.toNatClampNeg 0) 417 ((2 * a).toNatClampNeg) 0) 417 (((2 * a) + 1).toNatClampNeg) 0).1 := le_sI hn32
  have hL34 : LK (sI (sI (sI (sI (sI (sI (sI (sI (sI (sI (sI (sI (sI h 405 a.toNatClampNeg b) 406 a.toNatClampNeg (if b = 7 then (0) else (c))) 407 a.toNatClampNeg (if b = 5 then (d) else (if b = 6 then (d) else (0)))) 408 a.toNatClampNeg (if b = 5 then (e) else (0))) 409 a.toNatClampNeg 0) 410 a.toNatClampNeg 0) 412 a.toNatClampNeg 0) 413 a.toNatClampNeg 0) 414 a.toNatClampNeg 0) 415 a.toNatClampNeg 0) 416 a.toNatClampNeg 0) 417 ((2 * a).toNatClampNeg) 0) 417 (((2 * a) + 1).toNatClampNeg) 0) := LK_sI hL32
  refine e_ld (pc' := 134) i133_133 rfl rfl ?_
  refine e_get (w := .ref 418) (pc' := 137) i133_134 rfl (x_isC (by decide) hn34 sh397) (x_fvR (by decide +kernel) (hL34 397 22 418 lk397_22)) ?_
  refine e_ld (pc' := 138) i133_137 rfl rfl ?_
  refine e_cn (pc' := 139) i133_138 rfl ?_
  obtain ⟨g35, hP⟩ := hP
  refine e_as (n := a.toNatClampNeg) (h' := sI (sI (sI (sI (sI (sI (sI (sI (sI (sI (sI (sI (sI (sI h 405 a.toNatClampNeg b) 406 a.toNatClampNeg (if b = 7 then (0) else (c))) 407 a.toNatClampNeg (if b = 5 then (d) else (if b = 6 then (d) else (0)))) 408 a.toNatClampNeg (if b = 5 then (e) else (0))) 409 a.toNatClampNeg 0) 410 a.toNatClampNeg 0) 412 a.toNatClampNeg 0) 413 a.toNatClampNeg 0) 414 a.toNatClampNeg 0) 415 a.toNatClampNeg 0) 416 a.toNatClampNeg 0) 417 ((2 * a).toNatClampNeg) 0) 417 (((2 * a) + 1).toNatClampNeg) 0) 418 a.toNatClampNeg 3) (pc' := 140) i133_139 rfl (x_alX (a := 20) (by decide) hn34 sh418 (by decide) g35) rfl (by rw [show (SH 418).1 = 20 by rw [sh418]]; rfl) ?_
  have hn36 : 444 ≤ (sI (sI (sI (sI (sI (sI (sI (sI (sI (sI (sI (sI (sI (sI h 405 a.toNatClampNeg b) 406 a.toNatClampNeg (if b = 7 then (0) else (c))) 407 a.toNatClampNeg (if b = 5 then (d) else (if b = 6 then (d) else (0)))) 408 a.toNatClampNeg (if b = 5 then (e) else (0))) 409 a.toNatClampNeg 0) 410 a.toNatClampNeg 0) 412 a.toNatClampNeg 0) 413 a.toNatClampNeg 0) 414 a.toNatClampNeg 0) 415 a.toNatClampNeg 0) 416 a.toNatClampNeg 0) 417 ((2 * a).toNatClampNeg) 0) 417 (((2 * a) + 1).toNatClampNeg) 0) 418 a.toNatClampNeg 3).1 := le_sI hn34
  have hL36 : LK (sI (sI (sI (sI (sI (sI (sI (sI (sI (sI (sI (sI (sI (sI h 405 a.toNatClampNeg b) 406 a.toNatClampNeg (if b = 7 then (0) else (c))) 407 a.toNatClampNeg (if b = 5 then (d) else (if b = 6 then (d) else (0)))) 408 a.toNatClampNeg (if b = 5 then (e) else (0))) 409 a.toNatClampNeg 0) 410 a.toNatClampNeg 0) 412 a.toNatClampNeg 0) 413 a.toNatClampNeg 0) 414 a.toNatClampNeg 0) 415 a.toNatClampNeg 0) 416 a.toNatClampNeg 0) 417 ((2 * a).toNatClampNeg) 0) 417 (((2 * a) + 1).toNatClampNeg) 0) 418 a.toNatClampNeg 3) := LK_sI hL34
  refine e_ld (pc' := 141) i133_140 rfl rfl ?_
  refine e_get (w := .ref 419) (pc' := 144) i133_141 rfl (x_isC (by decide) hn36 sh397) (x_fvR (by decide +kernel) (hL36 397 23 419 lk397_23)) ?_
  refine e_ld (pc' := 145) i133_144 rfl rfl ?_
  refine e_cn (pc' := 146) i133_145 rfl ?_
  obtain ⟨g37, hP⟩ := hP
  refine e_as (n := a.toNatClampNeg) (h' := sI (sI (sI (sI (sI (sI (sI (sI (sI (sI (sI (sI (sI (sI (sI h 405 a.toNatClampNeg b) 406 a.toNatClampNeg (if b = 7 then (0) else (c))) 407 a.toNatClampNeg (if b = 5 then (d) else (if b = 6 then (d) else (0)))) 408 a.toNatClampNeg (if b = 5 then (e) else (0))) 409 a.toNatClampNeg 0) 410 a.toNatClampNeg 0) 412 a.toNatClampNeg 0) 413 a.toNatClampNeg 0) 414 a.toNatClampNeg 0) 415 a.toNatClampNeg 0) 416 a.toNatClampNeg 0) 417 ((2 * a).toNatClampNeg) 0) 417 (((2 * a) + 1).toNatClampNeg) 0) 418 a.toNatClampNeg 3) 419 a.toNatClampNeg 3) (pc' := 147) i133_146 rfl (x_alX (a := 20) (by decide) hn36 sh419 (by decide) g37) rfl (by rw [show (SH 419).1 = 20 by rw [sh419]]; rfl) ?_
  have hn38 : 444 ≤ (sI (sI (sI (sI (sI (sI (sI (sI (sI (sI (sI (sI (sI (sI (sI h 405 a.toNatClampNeg b) 406 a.toNatClampNeg (if b = 7 then (0) else (c))) 407 a.toNatClampNeg (if b = 5 then (d) else (if b = 6 then (d) else (0)))) 408 a.toNatClampNeg (if b = 5 then (e) else (0))) 409 a.toNatClampNeg 0) 410 a.toNatClampNeg 0) 412 a.toNatClampNeg 0) 413 a.toNatClampNeg 0) 414 a.toNatClampNeg 0) 415 a.toNatClampNeg 0) 416 a.toNatClampNeg 0) 417 ((2 * a).toNatClampNeg) 0) 417 (((2 * a) + 1).toNatClampNeg) 0) 418 a.toNatClampNeg 3) 419 a.toNatClampNeg 3).1 := le_sI hn36
  have hL38 : LK (sI (sI (sI (sI (sI (sI (sI (sI (sI (sI (sI (sI (sI (sI (sI h 405 a.toNatClampNeg b) 406 a.toNatClampNeg (if b = 7 then (0) else (c))) 407 a.toNatClampNeg (if b = 5 then (d) else (if b = 6 then (d) else (0)))) 408 a.toNatClampNeg (if b = 5 then (e) else (0))) 409 a.toNatClampNeg 0) 410 a.toNatClampNeg 0) 412 a.toNatClampNeg 0) 413 a.toNatClampNeg 0) 414 a.toNatClampNeg 0) 415 a.toNatClampNeg 0) 416 a.toNatClampNeg 0) 417 ((2 * a).toNatClampNeg) 0) 417 (((2 * a) + 1).toNatClampNeg) 0) 418 a.toNatClampNeg 3) 419 a.toNatClampNeg 3) := LK_sI hL36
  refine e_rt i133_147 rfl ?_
  exact ⟨rfl, by unfold G133; skip; rfl⟩
