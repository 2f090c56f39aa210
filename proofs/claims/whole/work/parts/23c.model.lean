/-! The reference's methods without loops, as functions. -/
/-- FloorTurnModel.lays(IIIII)V -/
def G133 (a : Int32) (b : Int32) (c : Int32) (d : Int32) (e : Int32) (h : Hp) : Hp := if b = 7 then (if b = 5 then (sI (sI (sI (sI (sI (sI (sI (sI (sI (sI (sI (sI (sI (sI (sI h 405 a.toNatClampNeg b) 406 a.toNatClampNeg 0) 407 a.toNatClampNeg d) 408 a.toNatClampNeg e) 409 a.toNatClampNeg 0) 410 a.toNatClampNeg 0) 412 a.toNatClampNeg 0) 413 a.toNatClampNeg 0) 414 a.toNatClampNeg 0) 415 a.toNatClampNeg 0) 416 a.toNatClampNeg 0) 417 ((2 * a).toNatClampNeg) 0) 417 (((2 * a) + 1).toNatClampNeg) 0) 418 a.toNatClampNeg 3) 419 a.toNatClampNeg 3) else (if b = 6 then (sI (sI (sI (sI (sI (sI (sI (sI (sI (sI (sI (sI (sI (sI (sI h 405 a.toNatClampNeg b) 406 a.toNatClampNeg 0) 407 a.toNatClampNeg d) 408 a.toNatClampNeg 0) 409 a.toNatClampNeg 0) 410 a.toNatClampNeg 0) 412 a.toNatClampNeg 0) 413 a.toNatClampNeg 0) 414 a.toNatClampNeg 0) 415 a.toNatClampNeg 0) 416 a.toNatClampNeg 0) 417 ((2 * a).toNatClampNeg) 0) 417 (((2 * a) + 1).toNatClampNeg) 0) 418 a.toNatClampNeg 3) 419 a.toNatClampNeg 3) else (sI (sI (sI (sI (sI (sI (sI (sI (sI (sI (sI (sI (sI (sI (sI h 405 a.toNatClampNeg b) 406 a.toNatClampNeg 0) 407 a.toNatClampNeg 0) 408 a.toNatClampNeg 0) 409 a.toNatClampNeg 0) 410 a.toNatClampNeg 0) 412 a.toNatClampNeg 0) 413 a.toNatClampNeg 0) 414 a.toNatClampNeg 0) 415 a.toNatClampNeg 0) 416 a.toNatClampNeg 0) 417 ((2 * a).toNatClampNeg) 0) 417 (((2 * a) + 1).toNatClampNeg) 0) 418 a.toNatClampNeg 3) 419 a.toNatClampNeg 3))) else (if b = 5 then (sI (sI (sI (sI (sI (sI (sI (sI (sI (sI (sI (sI (sI (sI (sI h 405 a.toNatClampNeg b) 406 a.toNatClampNeg c) 407 a.toNatClampNeg d) 408 a.toNatClampNeg e) 409 a.toNatClampNeg 0) 410 a.toNatClampNeg 0) 412 a.toNatClampNeg 0) 413 a.toNatClampNeg 0) 414 a.toNatClampNeg 0) 415 a.toNatClampNeg 0) 416 a.toNatClampNeg 0) 417 ((2 * a).toNatClampNeg) 0) 417 (((2 * a) + 1).toNatClampNeg) 0) 418 a.toNatClampNeg 3) 419 a.toNatClampNeg 3) else (if b = 6 then (sI (sI (sI (sI (sI (sI (sI (sI (sI (sI (sI (sI (sI (sI (sI h 405 a.toNatClampNeg b) 406 a.toNatClampNeg c) 407 a.toNatClampNeg d) 408 a.toNatClampNeg 0) 409 a.toNatClampNeg 0) 410 a.toNatClampNeg 0) 412 a.toNatClampNeg 0) 413 a.toNatClampNeg 0) 414 a.toNatClampNeg 0) 415 a.toNatClampNeg 0) 416 a.toNatClampNeg 0) 417 ((2 * a).toNatClampNeg) 0) 417 (((2 * a) + 1).toNatClampNeg) 0) 418 a.toNatClampNeg 3) 419 a.toNatClampNeg 3) else (sI (sI (sI (sI (sI (sI (sI (sI (sI (sI (sI (sI (sI (sI (sI h 405 a.toNatClampNeg b) 406 a.toNatClampNeg c) 407 a.toNatClampNeg 0) 408 a.toNatClampNeg 0) 409 a.toNatClampNeg 0) 410 a.toNatClampNeg 0) 412 a.toNatClampNeg 0) 413 a.toNatClampNeg 0) 414 a.toNatClampNeg 0) 415 a.toNatClampNeg 0) 416 a.toNatClampNeg 0) 417 ((2 * a).toNatClampNeg) 0) 417 (((2 * a) + 1).toNatClampNeg) 0) 418 a.toNatClampNeg 3) 419 a.toNatClampNeg 3)))
theorem n_G133 (a : Int32) (b : Int32) (c : Int32) (d : Int32) (e : Int32) (h : Hp) : (G133 a b c d e h).1 = h.1 := by
  unfold G133
  (repeat' split) <;> first | rfl | (simp only [n_sI, n_sL, n_sR])
theorem r_G133 (a : Int32) (b : Int32) (c : Int32) (d : Int32) (e : Int32) (h : Hp) : gR (G133 a b c d e h) = gR h := by
  unfold G133
  (repeat' split) <;> first | rfl | (simp only [gR_sI, gR_sL])
def P133 (a : Int32) (b : Int32) (c : Int32) (d : Int32) (e : Int32) (h : Hp) : Prop := (vp_in a 144) ∧ (((b = 7) → ((vp_in a 144) ∧ (((b = 5) → ((vp_in a 144) ∧ ((vp_in a 144) ∧ ((vp_in a 144) ∧ ((vp_in a 144) ∧ ((vp_in a 432) ∧ ((vp_in a 432) ∧ ((vp_in a 432) ∧ ((vp_in a 432) ∧ ((vp_in a 432) ∧ ((vp_in (2 * a) 864) ∧ ((vp_in ((2 * a) + 1) 864) ∧ ((vp_in a 432) ∧ ((vp_in a 432) ∧ (True))))))))))))))) ∧ (¬ (b = 5) → (((b = 6) → ((vp_in a 144) ∧ ((vp_in a 144) ∧ ((vp_in a 144) ∧ ((vp_in a 144) ∧ ((vp_in a 432) ∧ ((vp_in a 432) ∧ ((vp_in a 432) ∧ ((vp_in a 432) ∧ ((vp_in a 432) ∧ ((vp_in (2 * a) 864) ∧ ((vp_in ((2 * a) + 1) 864) ∧ ((vp_in a 432) ∧ ((vp_in a 432) ∧ (True))))))))))))))) ∧ (¬ (b = 6) → ((vp_in a 144) ∧ ((vp_in a 144) ∧ ((vp_in a 144) ∧ ((vp_in a 144) ∧ ((vp_in a 432) ∧ ((vp_in a 432) ∧ ((vp_in a 432) ∧ ((vp_in a 432) ∧ ((vp_in a 432) ∧ ((vp_in (2 * a) 864) ∧ ((vp_in ((2 * a) + 1) 864) ∧ ((vp_in a 432) ∧ ((vp_in a 432) ∧ (True)))))))))))))))))))) ∧ (¬ (b = 7) → ((vp_in a 144) ∧ (((b = 5) → ((vp_in a 144) ∧ ((vp_in a 144) ∧ ((vp_in a 144) ∧ ((vp_in a 144) ∧ ((vp_in a 432) ∧ ((vp_in a 432) ∧ ((vp_in a 432) ∧ ((vp_in a 432) ∧ ((vp_in a 432) ∧ ((vp_in (2 * a) 864) ∧ ((vp_in ((2 * a) + 1) 864) ∧ ((vp_in a 432) ∧ ((vp_in a 432) ∧ (True))))))))))))))) ∧ (¬ (b = 5) → (((b = 6) → ((vp_in a 144) ∧ ((vp_in a 144) ∧ ((vp_in a 144) ∧ ((vp_in a 144) ∧ ((vp_in a 432) ∧ ((vp_in a 432) ∧ ((vp_in a 432) ∧ ((vp_in a 432) ∧ ((vp_in a 432) ∧ ((vp_in (2 * a) 864) ∧ ((vp_in ((2 * a) + 1) 864) ∧ ((vp_in a 432) ∧ ((vp_in a 432) ∧ (True))))))))))))))) ∧ (¬ (b = 6) → ((vp_in a 144) ∧ ((vp_in a 144) ∧ ((vp_in a 144) ∧ ((vp_in a 144) ∧ ((vp_in a 432) ∧ ((vp_in a 432) ∧ ((vp_in a 432) ∧ ((vp_in a 432) ∧ ((vp_in a 432) ∧ ((vp_in (2 * a) 864) ∧ ((vp_in ((2 * a) + 1) 864) ∧ ((vp_in a 432) ∧ ((vp_in a 432) ∧ (True)))))))))))))))))))))
set_option maxHeartbeats 8000000 in
theorem m133 {L : Nat} {xs : Nat → Int32} {h : Hp} {a : Int32} {b : Int32} {c : Int32} {d : Int32} {e : Int32} (hn : 444 ≤ h.1) (hL : LK h) (hP : P133 a b c d e h) : Sp L xs 133 [.ref 397, .int a, .int b, .int c, .int d, .int e] h none (G133 a b c d e h) := by
  unfold P133 at hP
  refine sp_of (ls := [some (.ref 397), some (.int a), some (.int b), some (.int c), some (.int d), some (.int e)]) rfl ?_
  refine e_ld (pc' := 1) i133_0 rfl rfl ?_
  refine e_get (w := .ref 405) (pc' := 4) i133_1 rfl (x_isC (by decide) hn sh397) (x_fvR (by decide +kernel) (hL 397 8 405 lk397_8)) ?_
  refine e_ld (pc' := 5) i133_4 rfl rfl ?_
  refine e_ld (pc' := 6) i133_5 rfl rfl ?_
  obtain ⟨g1, hP⟩ := hP
  refine e_as (n := a.toNatClampNeg) (h' := sI h 405 a.toNatClampNeg b) (pc' := 7) i133_6 rfl (x_alX (a := 20) (by decide) hn sh405 (by decide) g1) rfl (by rw [show (SH 405).1 = 20 by rw [sh405]]; rfl) ?_
  have hn2 : 444 ≤ (sI h 405 a.toNatClampNeg b).1 := hn
  have hL2 : LK (sI h 405 a.toNatClampNeg b) := hL
  refine e_ld (pc' := 8) i133_7 rfl rfl ?_
  refine e_get (w := .ref 406) (pc' := 11) i133_8 rfl (x_isC (by decide) hn2 sh397) (x_fvR (by decide +kernel) (hL2 397 9 406 lk397_9)) ?_
  refine e_ld (pc' := 12) i133_11 rfl rfl ?_
  refine e_ld (pc' := 13) i133_12 rfl rfl ?_
  refine e_cn (pc' := 15) i133_13 rfl ?_
  refine e_ic (pc' := 18) i133_15 rfl (fun c3 => ?_) (fun c3 => ?_)
  · replace hP := hP.2 (of_decide_eq_true c3)
    refine e_ld (pc' := 23) i133_22 rfl rfl ?_
    obtain ⟨g4, hP⟩ := hP
    refine e_as (n := a.toNatClampNeg) (h' := sI (sI h 405 a.toNatClampNeg b) 406 a.toNatClampNeg c) (pc' := 24) i133_23 rfl (x_alX (a := 20) (by decide) hn2 sh406 (by decide) g4) rfl (by rw [show (SH 406).1 = 20 by rw [sh406]]; rfl) ?_
    have hn5 : 444 ≤ (sI (sI h 405 a.toNatClampNeg b) 406 a.toNatClampNeg c).1 := hn2
    have hL5 : LK (sI (sI h 405 a.toNatClampNeg b) 406 a.toNatClampNeg c) := hL2
    refine e_ld (pc' := 25) i133_24 rfl rfl ?_
    refine e_get (w := .ref 407) (pc' := 28) i133_25 rfl (x_isC (by decide) hn5 sh397) (x_fvR (by decide +kernel) (hL5 397 10 407 lk397_10)) ?_
    refine e_ld (pc' := 29) i133_28 rfl rfl ?_
    refine e_ld (pc' := 30) i133_29 rfl rfl ?_
    refine e_cn (pc' := 31) i133_30 rfl ?_
    refine e_ic (pc' := 34) i133_31 rfl (fun c6 => ?_) (fun c6 => ?_)
    · replace hP := hP.1 (of_decide_eq_true c6)
      refine e_ld (pc' := 42) i133_40 rfl rfl ?_
      refine e_go i133_42 ?_
      obtain ⟨g7, hP⟩ := hP
      refine e_as (n := a.toNatClampNeg) (h' := sI (sI (sI h 405 a.toNatClampNeg b) 406 a.toNatClampNeg c) 407 a.toNatClampNeg d) (pc' := 47) i133_46 rfl (x_alX (a := 20) (by decide) hn5 sh407 (by decide) g7) rfl (by rw [show (SH 407).1 = 20 by rw [sh407]]; rfl) ?_
      have hn8 : 444 ≤ (sI (sI (sI h 405 a.toNatClampNeg b) 406 a.toNatClampNeg c) 407 a.toNatClampNeg d).1 := hn5
      have hL8 : LK (sI (sI (sI h 405 a.toNatClampNeg b) 406 a.toNatClampNeg c) 407 a.toNatClampNeg d) := hL5
      refine e_ld (pc' := 48) i133_47 rfl rfl ?_
      refine e_get (w := .ref 408) (pc' := 51) i133_48 rfl (x_isC (by decide) hn8 sh397) (x_fvR (by decide +kernel) (hL8 397 11 408 lk397_11)) ?_
      refine e_ld (pc' := 52) i133_51 rfl rfl ?_
      refine e_ld (pc' := 53) i133_52 rfl rfl ?_
      refine e_cn (pc' := 54) i133_53 rfl ?_
      refine e_icF (pc' := 57) i133_54 rfl (decide_eq_false (not_not_intro (of_decide_eq_true c6))) ?_
      refine e_ld (pc' := 59) i133_57 rfl rfl ?_
      refine e_go i133_59 ?_
      obtain ⟨g10, hP⟩ := hP
      refine e_as (n := a.toNatClampNeg) (h' := sI (sI (sI (sI h 405 a.toNatClampNeg b) 406 a.toNatClampNeg c) 407 a.toNatClampNeg d) 408 a.toNatClampNeg e) (pc' := 64) i133_63 rfl (x_alX (a := 20) (by decide) hn8 sh408 (by decide) g10) rfl (by rw [show (SH 408).1 = 20 by rw [sh408]]; rfl) ?_
      have hn11 : 444 ≤ (sI (sI (sI (sI h 405 a.toNatClampNeg b) 406 a.toNatClampNeg c) 407 a.toNatClampNeg d) 408 a.toNatClampNeg e).1 := hn8
      have hL11 : LK (sI (sI (sI (sI h 405 a.toNatClampNeg b) 406 a.toNatClampNeg c) 407 a.toNatClampNeg d) 408 a.toNatClampNeg e) := hL8
      refine e_ld (pc' := 65) i133_64 rfl rfl ?_
      refine e_get (w := .ref 409) (pc' := 68) i133_65 rfl (x_isC (by decide) hn11 sh397) (x_fvR (by decide +kernel) (hL11 397 12 409 lk397_12)) ?_
      refine e_ld (pc' := 69) i133_68 rfl rfl ?_
      refine e_cn (pc' := 70) i133_69 rfl ?_
      obtain ⟨g12, hP⟩ := hP
      refine e_as (n := a.toNatClampNeg) (h' := sI (sI (sI (sI (sI h 405 a.toNatClampNeg b) 406 a.toNatClampNeg c) 407 a.toNatClampNeg d) 408 a.toNatClampNeg e) 409 a.toNatClampNeg 0) (pc' := 71) i133_70 rfl (x_alX (a := 20) (by decide) hn11 sh409 (by decide) g12) rfl (by rw [show (SH 409).1 = 20 by rw [sh409]]; rfl) ?_
      have hn13 : 444 ≤ (sI (sI (sI (sI (sI h 405 a.toNatClampNeg b) 406 a.toNatClampNeg c) 407 a.toNatClampNeg d) 408 a.toNatClampNeg e) 409 a.toNatClampNeg 0).1 := hn11
      have hL13 : LK (sI (sI (sI (sI (sI h 405 a.toNatClampNeg b) 406 a.toNatClampNeg c) 407 a.toNatClampNeg d) 408 a.toNatClampNeg e) 409 a.toNatClampNeg 0) := hL11
      refine e_ld (pc' := 72) i133_71 rfl rfl ?_
      refine e_get (w := .ref 410) (pc' := 75) i133_72 rfl (x_isC (by decide) hn13 sh397) (x_fvR (by decide +kernel) (hL13 397 13 410 lk397_13)) ?_
      refine e_ld (pc' := 76) i133_75 rfl rfl ?_
      refine e_cn (pc' := 77) i133_76 rfl ?_
      obtain ⟨g14, hP⟩ := hP
      refine e_as (n := a.toNatClampNeg) (h' := sI (sI (sI (sI (sI (sI h 405 a.toNatClampNeg b) 406 a.toNatClampNeg c) 407 a.toNatClampNeg d) 408 a.toNatClampNeg e) 409 a.toNatClampNeg 0) 410 a.toNatClampNeg 0) (pc' := 78) i133_77 rfl (x_alX (a := 20) (by decide) hn13 sh410 (by decide) g14) rfl (by rw [show (SH 410).1 = 20 by rw [sh410]]; rfl) ?_
      have hn15 : 444 ≤ (sI (sI (sI (sI (sI (sI h 405 a.toNatClampNeg b) 406 a.toNatClampNeg c) 407 a.toNatClampNeg d) 408 a.toNatClampNeg e) 409 a.toNatClampNeg 0) 410 a.toNatClampNeg 0).1 := hn13
      have hL15 : LK (sI (sI (sI (sI (sI (sI h 405 a.toNatClampNeg b) 406 a.toNatClampNeg c) 407 a.toNatClampNeg d) 408 a.toNatClampNeg e) 409 a.toNatClampNeg 0) 410 a.toNatClampNeg 0) := hL13
      refine e_ld (pc' := 79) i133_78 rfl rfl ?_
      refine e_get (w := .ref 412) (pc' := 82) i133_79 rfl (x_isC (by decide) hn15 sh397) (x_fvR (by decide +kernel) (hL15 397 16 412 lk397_16)) ?_
      refine e_ld (pc' := 83) i133_82 rfl rfl ?_
      refine e_cn (pc' := 84) i133_83 rfl ?_
      obtain ⟨g16, hP⟩ := hP
      refine e_as (n := a.toNatClampNeg) (h' := sI (sI (sI (sI (sI (sI (sI h 405 a.toNatClampNeg b) 406 a.toNatClampNeg c) 407 a.toNatClampNeg d) 408 a.toNatClampNeg e) 409 a.toNatClampNeg 0) 410 a.toNatClampNeg 0) 412 a.toNatClampNeg 0) (pc' := 85) i133_84 rfl (x_alX (a := 20) (by decide) hn15 sh412 (by decide) g16) rfl (by rw [show (SH 412).1 = 20 by rw [sh412]]; rfl) ?_
      have hn17 : 444 ≤ (sI (sI (sI (sI (sI (sI (sI h 405 a.toNatClampNeg b) 406 a.toNatClampNeg c) 407 a.toNatClampNeg d) 408 a.toNatClampNeg e) 409 a.toNatClampNeg 0) 410 a.toNatClampNeg 0) 412 a.toNatClampNeg 0).1 := hn15
      have hL17 : LK (sI (sI (sI (sI (sI (sI (sI h 405 a.toNatClampNeg b) 406 a.toNatClampNeg c) 407 a.toNatClampNeg d) 408 a.toNatClampNeg e) 409 a.toNatClampNeg 0) 410 a.toNatClampNeg 0) 412 a.toNatClampNeg 0) := hL15
      refine e_ld (pc' := 86) i133_85 rfl rfl ?_
      refine e_get (w := .ref 413) (pc' := 89) i133_86 rfl (x_isC (by decide) hn17 sh397) (x_fvR (by decide +kernel) (hL17 397 17 413 lk397_17)) ?_
      refine e_ld (pc' := 90) i133_89 rfl rfl ?_
      refine e_cn (pc' := 91) i133_90 rfl ?_
      obtain ⟨g18, hP⟩ := hP
      refine e_as (n := a.toNatClampNeg) (h' := sI (sI (sI (sI (sI (sI (sI (sI h 405 a.toNatClampNeg b) 406 a.toNatClampNeg c) 407 a.toNatClampNeg d) 408 a.toNatClampNeg e) 409 a.toNatClampNeg 0) 410 a.toNatClampNeg 0) 412 a.toNatClampNeg 0) 413 a.toNatClampNeg 0) (pc' := 92) i133_91 rfl (x_alX (a := 20) (by decide) hn17 sh413 (by decide) g18) rfl (by rw [show (SH 413).1 = 20 by rw [sh413]]; rfl) ?_
      have hn19 : 444 ≤ (sI (sI (sI (sI (sI (sI (sI (sI h 405 a.toNatClampNeg b) 406 a.toNatClampNeg c) 407 a.toNatClampNeg d) 408 a.toNatClampNeg e) 409 a.toNatClampNeg 0) 410 a.toNatClampNeg 0) 412 a.toNatClampNeg 0) 413 a.toNatClampNeg 0).1 := hn17
      have hL19 : LK (sI (sI (sI (sI (sI (sI (sI (sI h 405 a.toNatClampNeg b) 406 a.toNatClampNeg c) 407 a.toNatClampNeg d) 408 a.toNatClampNeg e) 409 a.toNatClampNeg 0) 410 a.toNatClampNeg 0) 412 a.toNatClampNeg 0) 413 a.toNatClampNeg 0) := hL17
      refine e_ld (pc' := 93) i133_92 rfl rfl ?_
      refine e_get (w := .ref 414) (pc' := 96) i133_93 rfl (x_isC (by decide) hn19 sh397) (x_fvR (by decide +kernel) (hL19 397 18 414 lk397_18)) ?_
      refine e_ld (pc' := 97) i133_96 rfl rfl ?_
      refine e_cn (pc' := 98) i133_97 rfl ?_
      obtain ⟨g20, hP⟩ := hP
      refine e_as (n := a.toNatClampNeg) (h' := sI (sI (sI (sI (sI (sI (sI (sI (sI h 405 a.toNatClampNeg b) 406 a.toNatClampNeg c) 407 a.toNatClampNeg d) 408 a.toNatClampNeg e) 409 a.toNatClampNeg 0) 410 a.toNatClampNeg 0) 412 a.toNatClampNeg 0) 413 a.toNatClampNeg 0) 414 a.toNatClampNeg 0) (pc' := 99) i133_98 rfl (x_alX (a := 20) (by decide) hn19 sh414 (by decide) g20) rfl (by rw [show (SH 414).1 = 20 by rw [sh414]]; rfl) ?_
      have hn21 : 444 ≤ (sI (sI (sI (sI (sI (sI (sI (sI (sI h 405 a.toNatClampNeg b) 406 a.toNatClampNeg c) 407 a.toNatClampNeg d) 408 a.toNatClampNeg e) 409 a.toNatClampNeg 0) 410 a.toNatClampNeg 0) 412 a.toNatClampNeg 0) 413 a.toNatClampNeg 0) 414 a.toNatClampNeg 0).1 := hn19
      have hL21 : LK (sI (sI (sI (sI (sI (sI (sI (sI (sI h 405 a.toNatClampNeg b) 406 a.toNatClampNeg c) 407 a.toNatClampNeg d) 408 a.toNatClampNeg e) 409 a.toNatClampNeg 0) 410 a.toNatClampNeg 0) 412 a.toNatClampNeg 0) 413 a.toNatClampNeg 0) 414 a.toNatClampNeg 0) := hL19
      refine e_ld (pc' := 100) i133_99 rfl rfl ?_
      refine e_get (w := .ref 415) (pc' := 103) i133_100 rfl (x_isC (by decide) hn21 sh397) (x_fvR (by decide +kernel) (hL21 397 19 415 lk397_19)) ?_
      refine e_ld (pc' := 104) i133_103 rfl rfl ?_
      refine e_cn (pc' := 105) i133_104 rfl ?_
      obtain ⟨g22, hP⟩ := hP
      refine e_as (n := a.toNatClampNeg) (h' := sI (sI (sI (sI (sI (sI (sI (sI (sI (sI h 405 a.toNatClampNeg b) 406 a.toNatClampNeg c) 407 a.toNatClampNeg d) 408 a.toNatClampNeg e) 409 a.toNatClampNeg 0) 410 a.toNatClampNeg 0) 412 a.toNatClampNeg 0) 413 a.toNatClampNeg 0) 414 a.toNatClampNeg 0) 415 a.toNatClampNeg 0) (pc' := 106) i133_105 rfl (x_alX (a := 20) (by decide) hn21 sh415 (by decide) g22) rfl (by rw [show (SH 415).1 = 20 by rw [sh415]]; rfl) ?_
      have hn23 : 444 ≤ (sI (sI (sI (sI (sI (sI (sI (sI (sI (sI h 405 a.toNatClampNeg b) 406 a.toNatClampNeg c) 407 a.toNatClampNeg d) 408 a.toNatClampNeg e) 409 a.toNatClampNeg 0) 410 a.toNatClampNeg 0) 412 a.toNatClampNeg 0) 413 a.toNatClampNeg 0) 414 a.toNatClampNeg 0) 415 a.toNatClampNeg 0).1 := hn21
      have hL23 : LK (sI (sI (sI (sI (sI (sI (sI (sI (sI (sI h 405 a.toNatClampNeg b) 406 a.toNatClampNeg c) 407 a.toNatClampNeg d) 408 a.toNatClampNeg e) 409 a.toNatClampNeg 0) 410 a.toNatClampNeg 0) 412 a.toNatClampNeg 0) 413 a.toNatClampNeg 0) 414 a.toNatClampNeg 0) 415 a.toNatClampNeg 0) := hL21
      refine e_ld (pc' := 107) i133_106 rfl rfl ?_
      refine e_get (w := .ref 416) (pc' := 110) i133_107 rfl (x_isC (by decide) hn23 sh397) (x_fvR (by decide +kernel) (hL23 397 20 416 lk397_20)) ?_
      refine e_ld (pc' := 111) i133_110 rfl rfl ?_
      refine e_cn (pc' := 112) i133_111 rfl ?_
      obtain ⟨g24, hP⟩ := hP
      refine e_as (n := a.toNatClampNeg) (h' := sI (sI (sI (sI (sI (sI (sI (sI (sI (sI (sI h 405 a.toNatClampNeg b) 406 a.toNatClampNeg c) 407 a.toNatClampNeg d) 408 a.toNatClampNeg e) 409 a.toNatClampNeg 0) 410 a.toNatClampNeg 0) 412 a.toNatClampNeg 0) 413 a.toNatClampNeg 0) 414 a.toNatClampNeg 0) 415 a.toNatClampNeg 0) 416 a.toNatClampNeg 0) (pc' := 113) i133_112 rfl (x_alX (a := 22) (by decide) hn23 sh416 (by decide) g24) rfl (by rw [show (SH 416).1 = 22 by rw [sh416]]; rfl) ?_
      have hn25 : 444 ≤ (sI (sI (sI (sI (sI (sI (sI (sI (sI (sI (sI h 405 a.toNatClampNeg b) 406 a.toNatClampNeg c) 407 a.toNatClampNeg d) 408 a.toNatClampNeg e) 409 a.toNatClampNeg 0) 410 a.toNatClampNeg 0) 412 a.toNatClampNeg 0) 413 a.toNatClampNeg 0) 414 a.toNatClampNeg 0) 415 a.toNatClampNeg 0) 416 a.toNatClampNeg 0).1 := hn23
      have hL25 : LK (sI (sI (sI (sI (sI (sI (sI (sI (sI (sI (sI h 405 a.toNatClampNeg b) 406 a.toNatClampNeg c) 407 a.toNatClampNeg d) 408 a.toNatClampNeg e) 409 a.toNatClampNeg 0) 410 a.toNatClampNeg 0) 412 a.toNatClampNeg 0) 413 a.toNatClampNeg 0) 414 a.toNatClampNeg 0) 415 a.toNatClampNeg 0) 416 a.toNatClampNeg 0) := hL23
      refine e_ld (pc' := 114) i133_113 rfl rfl ?_
      refine e_get (w := .ref 417) (pc' := 117) i133_114 rfl (x_isC (by decide) hn25 sh397) (x_fvR (by decide +kernel) (hL25 397 21 417 lk397_21)) ?_
      refine e_cn (pc' := 118) i133_117 rfl ?_
      refine e_ld (pc' := 119) i133_118 rfl rfl ?_
      refine e_ib (z := 2 * a) (pc' := 120) i133_119 rfl rfl ?_
      refine e_cn (pc' := 121) i133_120 rfl ?_
      obtain ⟨g26, hP⟩ := hP
      refine e_as (n := (2 * a).toNatClampNeg) (h' := sI (sI (sI (sI (sI (sI (sI (sI (sI (sI (sI (sI h 405 a.toNatClampNeg b) 406 a.toNatClampNeg c) 407 a.toNatClampNeg d) 408 a.toNatClampNeg e) 409 a.toNatClampNeg 0) 410 a.toNatClampNeg 0) 412 a.toNatClampNeg 0) 413 a.toNatClampNeg 0) 414 a.toNatClampNeg 0) 415 a.toNatClampNeg 0) 416 a.toNatClampNeg 0) 417 ((2 * a).toNatClampNeg) 0) (pc' := 122) i133_121 rfl (x_alX (a := 20) (by decide) hn25 sh417 (by decide) g26) rfl (by rw [show (SH 417).1 = 20 by rw [sh417]]; rfl) ?_
      have hn27 : 444 ≤ (sI (sI (sI (sI (sI (sI (sI (sI (sI (sI (sI (sI h 405 a.toNatClampNeg b) 406 a.toNatClampNeg c) 407 a.toNatClampNeg d) 408 a.toNatClampNeg e) 409 a.toNatClampNeg 0) 410 a.toNatClampNeg 0) 412 a.toNatClampNeg 0) 413 a.toNatClampNeg 0) 414 a.toNatClampNeg 0) 415 a.toNatClampNeg 0) 416 a.toNatClampNeg 0) 417 ((2 * a).toNatClampNeg) 0).1 := hn25
      have hL27 : LK (sI (sI (sI (sI (sI (sI (sI (sI (sI (sI (sI (sI h 405 a.toNatClampNeg b) 406 a.toNatClampNeg c) 407 a.toNatClampNeg d) 408 a.toNatClampNeg e) 409 a.toNatClampNeg 0) 410 a.toNatClampNeg 0) 412 a.toNatClampNeg 0) 413 a.toNatClampNeg 0) 414 a.toNatClampNeg 0) 415 a.toNatClampNeg 0) 416 a.toNatClampNeg 0) 417 ((2 * a).toNatClampNeg) 0) := hL25
      refine e_ld (pc' := 123) i133_122 rfl rfl ?_
      refine e_get (w := .ref 417) (pc' := 126) i133_123 rfl (x_isC (by decide) hn27 sh397) (x_fvR (by decide +kernel) (hL27 397 21 417 lk397_21)) ?_
      refine e_cn (pc' := 127) i133_126 rfl ?_
      refine e_ld (pc' := 128) i133_127 rfl rfl ?_
      refine e_ib (z := 2 * a) (pc' := 129) i133_128 rfl rfl ?_
      refine e_cn (pc' := 130) i133_129 rfl ?_
      refine e_ib (z := (2 * a) + 1) (pc' := 131) i133_130 rfl rfl ?_
      refine e_cn (pc' := 132) i133_131 rfl ?_
      obtain ⟨g28, hP⟩ := hP
      refine e_as (n := ((2 * a) + 1).toNatClampNeg) (h' := sI (sI (sI (sI (sI (sI (sI (sI (sI (sI (sI (sI (sI h 405 a.toNatClampNeg b) 406 a.toNatClampNeg c) 407 a.toNatClampNeg d) 408 a.toNatClampNeg e) 409 a.toNatClampNeg 0) 410 a.toNatClampNeg 0) 412 a.toNatClampNeg 0) 413 a.toNatClampNeg 0) 414 a.toNatClampNeg 0) 415 a.toNatClampNeg 0) 416 a.toNatClampNeg 0) 417 ((2 * a).toNatClampNeg) 0) 417 (((2 * a) + 1).toNatClampNeg) 0) (pc' := 133) i133_132 rfl (x_alX (a := 20) (by decide) hn27 sh417 (by decide) g28) rfl (by rw [show (SH 417).1 = 20 by rw [sh417]]; rfl) ?_
      have hn29 : 444 ≤ (sI (sI (sI (sI (sI (sI (sI (sI (sI (sI (sI (sI (sI h 405 a.toNatClampNeg b) 406 a.toNatClampNeg c) 407 a.toNatClampNeg d) 408 a.toNatClampNeg e) 409 a.toNatClampNeg 0) 410 a.toNatClampNeg 0) 412 a.toNatClampNeg 0) 413 a.toNatClampNeg 0) 414 a.toNatClampNeg 0) 415 a.toNatClampNeg 0) 416 a.toNatClampNeg 0) 417 ((2 * a).toNatClampNeg) 0) 417 (((2 * a) + 1).toNatClampNeg) 0).1 := hn27
      have hL29 : LK (sI (sI (sI (sI (sI (sI (sI (sI (sI (sI (sI (sI (sI h 405 a.toNatClampNeg b) 406 a.toNatClampNeg c) 407 a.toNatClampNeg d) 408 a.toNatClampNeg e) 409 a.toNatClampNeg 0) 410 a.toNatClampNeg 0) 412 a.toNatClampNeg 0) 413 a.toNatClampNeg 0) 414 a.toNatClampNeg 0) 415 a.toNatClampNeg 0) 416 a.toNatClampNeg 0) 417 ((2 * a).toNatClampNeg) 0) 417 (((2 * a) + 1).toNatClampNeg) 0) := hL27
      refine e_ld (pc' := 134) i133_133 rfl rfl ?_
      refine e_get (w := .ref 418) (pc' := 137) i133_134 rfl (x_isC (by decide) hn29 sh397) (x_fvR (by decide +kernel) (hL29 397 22 418 lk397_22)) ?_
      refine e_ld (pc' := 138) i133_137 rfl rfl ?_
      refine e_cn (pc' := 139) i133_138 rfl ?_
      obtain ⟨g30, hP⟩ := hP
      refine e_as (n := a.toNatClampNeg) (h' := sI (sI (sI (sI (sI (sI (sI (sI (sI (sI (sI (sI (sI (sI h 405 a.toNatClampNeg b) 406 a.toNatClampNeg c) 407 a.toNatClampNeg d) 408 a.toNatClampNeg e) 409 a.toNatClampNeg 0) 410 a.toNatClampNeg 0) 412 a.toNatClampNeg 0) 413 a.toNatClampNeg 0) 414 a.toNatClampNeg 0) 415 a.toNatClampNeg 0) 416 a.toNatClampNeg 0) 417 ((2 * a).toNatClampNeg) 0) 417 (((2 * a) + 1).toNatClampNeg) 0) 418 a.toNatClampNeg 3) (pc' := 140) i133_139 rfl (x_alX (a := 20) (by decide) hn29 sh418 (by decide) g30) rfl (by rw [show (SH 418).1 = 20 by rw [sh418]]; rfl) ?_
      have hn31 : 444 ≤ (sI (sI (sI (sI (sI (sI (sI (sI (sI (sI (sI (sI (sI (sI h 405 a.toNatClampNeg b) 406 a.toNatClampNeg c) 407 a.toNatClampNeg d) 408 a.toNatClampNeg e) 409 a.toNatClampNeg 0) 410 a.toNatClampNeg 0) 412 a.toNatClampNeg 0) 413 a.toNatClampNeg 0) 414 a.toNatClampNeg 0) 415 a.toNatClampNeg 0) 416 a.toNatClampNeg 0) 417 ((2 * a).toNatClampNeg) 0) 417 (((2 * a) + 1).toNatClampNeg) 0) 418 a.toNatClampNeg 3).1 := hn29
      have hL31 : LK (sI (sI (sI (sI (sI (sI (sI (sI (sI (sI (sI (sI (sI (sI h 405 a.toNatClampNeg b) 406 a.toNatClampNeg c) 407 a.toNatClampNeg d) 408 a.toNatClampNeg e) 409 a.toNatClampNeg 0) 410 a.toNatClampNeg 0) 412 a.toNatClampNeg 0) 413 a.toNatClampNeg 0) 414 a.toNatClampNeg 0) 415 a.toNatClampNeg 0) 416 a.toNatClampNeg 0) 417 ((2 * a).toNatClampNeg) 0) 417 (((2 * a) + 1).toNatClampNeg) 0) 418 a.toNatClampNeg 3) := hL29
      refine e_ld (pc' := 141) i133_140 rfl rfl ?_
      refine e_get (w := .ref 419) (pc' := 144) i133_141 rfl (x_isC (by decide) hn31 sh397) (x_fvR (by decide +kernel) (hL31 397 23 419 lk397_23)) ?_
      refine e_ld (pc' := 145) i133_144 rfl rfl ?_
      refine e_cn (pc' := 146) i133_145 rfl ?_
      obtain ⟨g32, hP⟩ := hP
      refine e_as (n := a.toNatClampNeg) (h' := sI (sI (sI (sI (sI (sI (sI (sI (sI (sI (sI (sI (sI (sI (sI h 405 a.toNatClampNeg b) 406 a.toNatClampNeg c) 407 a.toNatClampNeg d) 408 a.toNatClampNeg e) 409 a.toNatClampNeg 0) 410 a.toNatClampNeg 0) 412 a.toNatClampNeg 0) 413 a.toNatClampNeg 0) 414 a.toNatClampNeg 0) 415 a.toNatClampNeg 0) 416 a.toNatClampNeg 0) 417 ((2 * a).toNatClampNeg) 0) 417 (((2 * a) + 1).toNatClampNeg) 0) 418 a.toNatClampNeg 3) 419 a.toNatClampNeg 3) (pc' := 147) i133_146 rfl (x_alX (a := 20) (by decide) hn31 sh419 (by decide) g32) rfl (by rw [show (SH 419).1 = 20 by rw [sh419]]; rfl) ?_
      have hn33 : 444 ≤ (sI (sI (sI (sI (sI (sI (sI (sI (sI (sI (sI (sI (sI (sI (sI h 405 a.toNatClampNeg b) 406 a.toNatClampNeg c) 407 a.toNatClampNeg d) 408 a.toNatClampNeg e) 409 a.toNatClampNeg 0) 410 a.toNatClampNeg 0) 412 a.toNatClampNeg 0) 413 a.toNatClampNeg 0) 414 a.toNatClampNeg 0) 415 a.toNatClampNeg 0) 416 a.toNatClampNeg 0) 417 ((2 * a).toNatClampNeg) 0) 417 (((2 * a) + 1).toNatClampNeg) 0) 418 a.toNatClampNeg 3) 419 a.toNatClampNeg 3).1 := hn31
      have hL33 : LK (sI (sI (sI (sI (sI (sI (sI (sI (sI (sI (sI (sI (sI (sI (sI h 405 a.toNatClampNeg b) 406 a.toNatClampNeg c) 407 a.toNatClampNeg d) 408 a.toNatClampNeg e) 409 a.toNatClampNeg 0) 410 a.toNatClampNeg 0) 412 a.toNatClampNeg 0) 413 a.toNatClampNeg 0) 414 a.toNatClampNeg 0) 415 a.toNatClampNeg 0) 416 a.toNatClampNeg 0) 417 ((2 * a).toNatClampNeg) 0) 417 (((2 * a) + 1).toNatClampNeg) 0) 418 a.toNatClampNeg 3) 419 a.toNatClampNeg 3) := hL31
      refine e_rt i133_147 rfl ?_
      exact ⟨rfl, by unfold G133; simp only [if_neg (show ¬ (b = 7) from (of_decide_eq_true c3)), if_pos (show b = 5 from (of_decide_eq_true c6))]⟩
    · replace hP := hP.2 (of_decide_eq_false c6)
      refine e_ld (pc' := 35) i133_34 rfl rfl ?_
      refine e_cn (pc' := 37) i133_35 rfl ?_
      refine e_ic (pc' := 40) i133_37 rfl (fun c34 => ?_) (fun c34 => ?_)
      · replace hP := hP.2 (of_decide_eq_true c34)
        refine e_cn (pc' := 46) i133_45 rfl ?_
        obtain ⟨g35, hP⟩ := hP
        refine e_as (n := a.toNatClampNeg) (h' := sI (sI (sI h 405 a.toNatClampNeg b) 406 a.toNatClampNeg c) 407 a.toNatClampNeg 0) (pc' := 47) i133_46 rfl (x_alX (a := 20) (by decide) hn5 sh407 (by decide) g35) rfl (by rw [show (SH 407).1 = 20 by rw [sh407]]; rfl) ?_
        have hn36 : 444 ≤ (sI (sI (sI h 405 a.toNatClampNeg b) 406 a.toNatClampNeg c) 407 a.toNatClampNeg 0).1 := hn5
        have hL36 : LK (sI (sI (sI h 405 a.toNatClampNeg b) 406 a.toNatClampNeg c) 407 a.toNatClampNeg 0) := hL5
        refine e_ld (pc' := 48) i133_47 rfl rfl ?_
        refine e_get (w := .ref 408) (pc' := 51) i133_48 rfl (x_isC (by decide) hn36 sh397) (x_fvR (by decide +kernel) (hL36 397 11 408 lk397_11)) ?_
        refine e_ld (pc' := 52) i133_51 rfl rfl ?_
        refine e_ld (pc' := 53) i133_52 rfl rfl ?_
        refine e_cn (pc' := 54) i133_53 rfl ?_
        refine e_icT i133_54 (decide_eq_true (of_decide_eq_false c6)) ?_
        refine e_cn (pc' := 63) i133_62 rfl ?_
        obtain ⟨g38, hP⟩ := hP
        refine e_as (n := a.toNatClampNeg) (h' := sI (sI (sI (sI h 405 a.toNatClampNeg b) 406 a.toNatClampNeg c) 407 a.toNatClampNeg 0) 408 a.toNatClampNeg 0) (pc' := 64) i133_63 rfl (x_alX (a := 20) (by decide) hn36 sh408 (by decide) g38) rfl (by rw [show (SH 408).1 = 20 by rw [sh408]]; rfl) ?_
        have hn39 : 444 ≤ (sI (sI (sI (sI h 405 a.toNatClampNeg b) 406 a.toNatClampNeg c) 407 a.toNatClampNeg 0) 408 a.toNatClampNeg 0).1 := hn36
        have hL39 : LK (sI (sI (sI (sI h 405 a.toNatClampNeg b) 406 a.toNatClampNeg c) 407 a.toNatClampNeg 0) 408 a.toNatClampNeg 0) := hL36
        refine e_ld (pc' := 65) i133_64 rfl rfl ?_
        refine e_get (w := .ref 409) (pc' := 68) i133_65 rfl (x_isC (by decide) hn39 sh397) (x_fvR (by decide +kernel) (hL39 397 12 409 lk397_12)) ?_
        refine e_ld (pc' := 69) i133_68 rfl rfl ?_
        refine e_cn (pc' := 70) i133_69 rfl ?_
        obtain ⟨g40, hP⟩ := hP
        refine e_as (n := a.toNatClampNeg) (h' := sI (sI (sI (sI (sI h 405 a.toNatClampNeg b) 406 a.toNatClampNeg c) 407 a.toNatClampNeg 0) 408 a.toNatClampNeg 0) 409 a.toNatClampNeg 0) (pc' := 71) i133_70 rfl (x_alX (a := 20) (by decide) hn39 sh409 (by decide) g40) rfl (by rw [show (SH 409).1 = 20 by rw [sh409]]; rfl) ?_
        have hn41 : 444 ≤ (sI (sI (sI (sI (sI h 405 a.toNatClampNeg b) 406 a.toNatClampNeg c) 407 a.toNatClampNeg 0) 408 a.toNatClampNeg 0) 409 a.toNatClampNeg 0).1 := hn39
        have hL41 : LK (sI (sI (sI (sI (sI h 405 a.toNatClampNeg b) 406 a.toNatClampNeg c) 407 a.toNatClampNeg 0) 408 a.toNatClampNeg 0) 409 a.toNatClampNeg 0) := hL39
        refine e_ld (pc' := 72) i133_71 rfl rfl ?_
        refine e_get (w := .ref 410) (pc' := 75) i133_72 rfl (x_isC (by decide) hn41 sh397) (x_fvR (by decide +kernel) (hL41 397 13 410 lk397_13)) ?_
        refine e_ld (pc' := 76) i133_75 rfl rfl ?_
        refine e_cn (pc' := 77) i133_76 rfl ?_
        obtain ⟨g42, hP⟩ := hP
        refine e_as (n := a.toNatClampNeg) (h' := sI (sI (sI (sI (sI (sI h 405 a.toNatClampNeg b) 406 a.toNatClampNeg c) 407 a.toNatClampNeg 0) 408 a.toNatClampNeg 0) 409 a.toNatClampNeg 0) 410 a.toNatClampNeg 0) (pc' := 78) i133_77 rfl (x_alX (a := 20) (by decide) hn41 sh410 (by decide) g42) rfl (by rw [show (SH 410).1 = 20 by rw [sh410]]; rfl) ?_
        have hn43 : 444 ≤ (sI (sI (sI (sI (sI (sI h 405 a.toNatClampNeg b) 406 a.toNatClampNeg c) 407 a.toNatClampNeg 0) 408 a.toNatClampNeg 0) 409 a.toNatClampNeg 0) 410 a.toNatClampNeg 0).1 := hn41
        have hL43 : LK (sI (sI (sI (sI (sI (sI h 405 a.toNatClampNeg b) 406 a.toNatClampNeg c) 407 a.toNatClampNeg 0) 408 a.toNatClampNeg 0) 409 a.toNatClampNeg 0) 410 a.toNatClampNeg 0) := hL41
        refine e_ld (pc' := 79) i133_78 rfl rfl ?_
        refine e_get (w := .ref 412) (pc' := 82) i133_79 rfl (x_isC (by decide) hn43 sh397) (x_fvR (by decide +kernel) (hL43 397 16 412 lk397_16)) ?_
        refine e_ld (pc' := 83) i133_82 rfl rfl ?_
        refine e_cn (pc' := 84) i133_83 rfl ?_
        obtain ⟨g44, hP⟩ := hP
        refine e_as (n := a.toNatClampNeg) (h' := sI (sI (sI (sI (sI (sI (sI h 405 a.toNatClampNeg b) 406 a.toNatClampNeg c) 407 a.toNatClampNeg 0) 408 a.toNatClampNeg 0) 409 a.toNatClampNeg 0) 410 a.toNatClampNeg 0) 412 a.toNatClampNeg 0) (pc' := 85) i133_84 rfl (x_alX (a := 20) (by decide) hn43 sh412 (by decide) g44) rfl (by rw [show (SH 412).1 = 20 by rw [sh412]]; rfl) ?_
        have hn45 : 444 ≤ (sI (sI (sI (sI (sI (sI (sI h 405 a.toNatClampNeg b) 406 a.toNatClampNeg c) 407 a.toNatClampNeg 0) 408 a.toNatClampNeg 0) 409 a.toNatClampNeg 0) 410 a.toNatClampNeg 0) 412 a.toNatClampNeg 0).1 := hn43
        have hL45 : LK (sI (sI (sI (sI (sI (sI (sI h 405 a.toNatClampNeg b) 406 a.toNatClampNeg c) 407 a.toNatClampNeg 0) 408 a.toNatClampNeg 0) 409 a.toNatClampNeg 0) 410 a.toNatClampNeg 0) 412 a.toNatClampNeg 0) := hL43
        refine e_ld (pc' := 86) i133_85 rfl rfl ?_
        refine e_get (w := .ref 413) (pc' := 89) i133_86 rfl (x_isC (by decide) hn45 sh397) (x_fvR (by decide +kernel) (hL45 397 17 413 lk397_17)) ?_
        refine e_ld (pc' := 90) i133_89 rfl rfl ?_
        refine e_cn (pc' := 91) i133_90 rfl ?_
        obtain ⟨g46, hP⟩ := hP
        refine e_as (n := a.toNatClampNeg) (h' := sI (sI (sI (sI (sI (sI (sI (sI h 405 a.toNatClampNeg b) 406 a.toNatClampNeg c) 407 a.toNatClampNeg 0) 408 a.toNatClampNeg 0) 409 a.toNatClampNeg 0) 410 a.toNatClampNeg 0) 412 a.toNatClampNeg 0) 413 a.toNatClampNeg 0) (pc' := 92) i133_91 rfl (x_alX (a := 20) (by decide) hn45 sh413 (by decide) g46) rfl (by rw [show (SH 413).1 = 20 by rw [sh413]]; rfl) ?_
        have hn47 : 444 ≤ (sI (sI (sI (sI (sI (sI (sI (sI h 405 a.toNatClampNeg b) 406 a.toNatClampNeg c) 407 a.toNatClampNeg 0) 408 a.toNatClampNeg 0) 409 a.toNatClampNeg 0) 410 a.toNatClampNeg 0) 412 a.toNatClampNeg 0) 413 a.toNatClampNeg 0).1 := hn45
        have hL47 : LK (sI (sI (sI (sI (sI (sI (sI (sI h 405 a.toNatClampNeg b) 406 a.toNatClampNeg c) 407 a.toNatClampNeg 0) 408 a.toNatClampNeg 0) 409 a.toNatClampNeg 0) 410 a.toNatClampNeg 0) 412 a.toNatClampNeg 0) 413 a.toNatClampNeg 0) := hL45
        refine e_ld (pc' := 93) i133_92 rfl rfl ?_
        refine e_get (w := .ref 414) (pc' := 96) i133_93 rfl (x_isC (by decide) hn47 sh397) (x_fvR (by decide +kernel) (hL47 397 18 414 lk397_18)) ?_
        refine e_ld (pc' := 97) i133_96 rfl rfl ?_
        refine e_cn (pc' := 98) i133_97 rfl ?_
        obtain ⟨g48, hP⟩ := hP
        refine e_as (n := a.toNatClampNeg) (h' := sI (sI (sI (sI (sI (sI (sI (sI (sI h 405 a.toNatClampNeg b) 406 a.toNatClampNeg c) 407 a.toNatClampNeg 0) 408 a.toNatClampNeg 0) 409 a.toNatClampNeg 0) 410 a.toNatClampNeg 0) 412 a.toNatClampNeg 0) 413 a.toNatClampNeg 0) 414 a.toNatClampNeg 0) (pc' := 99) i133_98 rfl (x_alX (a := 20) (by decide) hn47 sh414 (by decide) g48) rfl (by rw [show (SH 414).1 = 20 by rw [sh414]]; rfl) ?_
        have hn49 : 444 ≤ (sI (sI (sI (sI (sI (sI (sI (sI (sI h 405 a.toNatClampNeg b) 406 a.toNatClampNeg c) 407 a.toNatClampNeg 0) 408 a.toNatClampNeg 0) 409 a.toNatClampNeg 0) 410 a.toNatClampNeg 0) 412 a.toNatClampNeg 0) 413 a.toNatClampNeg 0) 414 a.toNatClampNeg 0).1 := hn47
        have hL49 : LK (sI (sI (sI (sI (sI (sI (sI (sI (sI h 405 a.toNatClampNeg b) 406 a.toNatClampNeg c) 407 a.toNatClampNeg 0) 408 a.toNatClampNeg 0) 409 a.toNatClampNeg 0) 410 a.toNatClampNeg 0) 412 a.toNatClampNeg 0) 413 a.toNatClampNeg 0) 414 a.toNatClampNeg 0) := hL47
        refine e_ld (pc' := 100) i133_99 rfl rfl ?_
        refine e_get (w := .ref 415) (pc' := 103) i133_100 rfl (x_isC (by decide) hn49 sh397) (x_fvR (by decide +kernel) (hL49 397 19 415 lk397_19)) ?_
        refine e_ld (pc' := 104) i133_103 rfl rfl ?_
        refine e_cn (pc' := 105) i133_104 rfl ?_
        obtain ⟨g50, hP⟩ := hP
        refine e_as (n := a.toNatClampNeg) (h' := sI (sI (sI (sI (sI (sI (sI (sI (sI (sI h 405 a.toNatClampNeg b) 406 a.toNatClampNeg c) 407 a.toNatClampNeg 0) 408 a.toNatClampNeg 0) 409 a.toNatClampNeg 0) 410 a.toNatClampNeg 0) 412 a.toNatClampNeg 0) 413 a.toNatClampNeg 0) 414 a.toNatClampNeg 0) 415 a.toNatClampNeg 0) (pc' := 106) i133_105 rfl (x_alX (a := 20) (by decide) hn49 sh415 (by decide) g50) rfl (by rw [show (SH 415).1 = 20 by rw [sh415]]; rfl) ?_
        have hn51 : 444 ≤ (sI (sI (sI (sI (sI (sI (sI (sI (sI (sI h 405 a.toNatClampNeg b) 406 a.toNatClampNeg c) 407 a.toNatClampNeg 0) 408 a.toNatClampNeg 0) 409 a.toNatClampNeg 0) 410 a.toNatClampNeg 0) 412 a.toNatClampNeg 0) 413 a.toNatClampNeg 0) 414 a.toNatClampNeg 0) 415 a.toNatClampNeg 0).1 := hn49
        have hL51 : LK (sI (sI (sI (sI (sI (sI (sI (sI (sI (sI h 405 a.toNatClampNeg b) 406 a.toNatClampNeg c) 407 a.toNatClampNeg 0) 408 a.toNatClampNeg 0) 409 a.toNatClampNeg 0) 410 a.toNatClampNeg 0) 412 a.toNatClampNeg 0) 413 a.toNatClampNeg 0) 414 a.toNatClampNeg 0) 415 a.toNatClampNeg 0) := hL49
        refine e_ld (pc' := 107) i133_106 rfl rfl ?_
        refine e_get (w := .ref 416) (pc' := 110) i133_107 rfl (x_isC (by decide) hn51 sh397) (x_fvR (by decide +kernel) (hL51 397 20 416 lk397_20)) ?_
        refine e_ld (pc' := 111) i133_110 rfl rfl ?_
        refine e_cn (pc' := 112) i133_111 rfl ?_
        obtain ⟨g52, hP⟩ := hP
        refine e_as (n := a.toNatClampNeg) (h' := sI (sI (sI (sI (sI (sI (sI (sI (sI (sI (sI h 405 a.toNatClampNeg b) 406 a.toNatClampNeg c) 407 a.toNatClampNeg 0) 408 a.toNatClampNeg 0) 409 a.toNatClampNeg 0) 410 a.toNatClampNeg 0) 412 a.toNatClampNeg 0) 413 a.toNatClampNeg 0) 414 a.toNatClampNeg 0) 415 a.toNatClampNeg 0) 416 a.toNatClampNeg 0) (pc' := 113) i133_112 rfl (x_alX (a := 22) (by decide) hn51 sh416 (by decide) g52) rfl (by rw [show (SH 416).1 = 22 by rw [sh416]]; rfl) ?_
        have hn53 : 444 ≤ (sI (sI (sI (sI (sI (sI (sI (sI (sI (sI (sI h 405 a.toNatClampNeg b) 406 a.toNatClampNeg c) 407 a.toNatClampNeg 0) 408 a.toNatClampNeg 0) 409 a.toNatClampNeg 0) 410 a.toNatClampNeg 0) 412 a.toNatClampNeg 0) 413 a.toNatClampNeg 0) 414 a.toNatClampNeg 0) 415 a.toNatClampNeg 0) 416 a.toNatClampNeg 0).1 := hn51
        have hL53 : LK (sI (sI (sI (sI (sI (sI (sI (sI (sI (sI (sI h 405 a.toNatClampNeg b) 406 a.toNatClampNeg c) 407 a.toNatClampNeg 0) 408 a.toNatClampNeg 0) 409 a.toNatClampNeg 0) 410 a.toNatClampNeg 0) 412 a.toNatClampNeg 0) 413 a.toNatClampNeg 0) 414 a.toNatClampNeg 0) 415 a.toNatClampNeg 0) 416 a.toNatClampNeg 0) := hL51
        refine e_ld (pc' := 114) i133_113 rfl rfl ?_
        refine e_get (w := .ref 417) (pc' := 117) i133_114 rfl (x_isC (by decide) hn53 sh397) (x_fvR (by decide +kernel) (hL53 397 21 417 lk397_21)) ?_
        refine e_cn (pc' := 118) i133_117 rfl ?_
        refine e_ld (pc' := 119) i133_118 rfl rfl ?_
        refine e_ib (z := 2 * a) (pc' := 120) i133_119 rfl rfl ?_
        refine e_cn (pc' := 121) i133_120 rfl ?_
        obtain ⟨g54, hP⟩ := hP
        refine e_as (n := (2 * a).toNatClampNeg) (h' := sI (sI (sI (sI (sI (sI (sI (sI (sI (sI (sI (sI h 405 a.toNatClampNeg b) 406 a.toNatClampNeg c) 407 a.toNatClampNeg 0) 408 a.toNatClampNeg 0) 409 a.toNatClampNeg 0) 410 a.toNatClampNeg 0) 412 a.toNatClampNeg 0) 413 a.toNatClampNeg 0) 414 a.toNatClampNeg 0) 415 a.toNatClampNeg 0) 416 a.toNatClampNeg 0) 417 ((2 * a).toNatClampNeg) 0) (pc' := 122) i133_121 rfl (x_alX (a := 20) (by decide) hn53 sh417 (by decide) g54) rfl (by rw [show (SH 417).1 = 20 by rw [sh417]]; rfl) ?_
        have hn55 : 444 ≤ (sI (sI (sI (sI (sI (sI (sI (sI (sI (sI (sI (sI h 405 a.toNatClampNeg b) 406 a.toNatClampNeg c) 407 a.toNatClampNeg 0) 408 a.toNatClampNeg 0) 409 a.toNatClampNeg 0) 410 a.toNatClampNeg 0) 412 a.toNatClampNeg 0) 413 a.toNatClampNeg 0) 414 a.toNatClampNeg 0) 415 a.toNatClampNeg 0) 416 a.toNatClampNeg 0) 417 ((2 * a).toNatClampNeg) 0).1 := hn53
        have hL55 : LK (sI (sI (sI (sI (sI (sI (sI (sI (sI (sI (sI (sI h 405 a.toNatClampNeg b) 406 a.toNatClampNeg c) 407 a.toNatClampNeg 0) 408 a.toNatClampNeg 0) 409 a.toNatClampNeg 0) 410 a.toNatClampNeg 0) 412 a.toNatClampNeg 0) 413 a.toNatClampNeg 0) 414 a.toNatClampNeg 0) 415 a.toNatClampNeg 0) 416 a.toNatClampNeg 0) 417 ((2 * a).toNatClampNeg) 0) := hL53
        refine e_ld (pc' := 123) i133_122 rfl rfl ?_
        refine e_get (w := .ref 417) (pc' := 126) i133_123 rfl (x_isC (by decide) hn55 sh397) (x_fvR (by decide +kernel) (hL55 397 21 417 lk397_21)) ?_
        refine e_cn (pc' := 127) i133_126 rfl ?_
        refine e_ld (pc' := 128) i133_127 rfl rfl ?_
        refine e_ib (z := 2 * a) (pc' := 129) i133_128 rfl rfl ?_
        refine e_cn (pc' := 130) i133_129 rfl ?_
        refine e_ib (z := (2 * a) + 1) (pc' := 131) i133_130 rfl rfl ?_
        refine e_cn (pc' := 132) i133_131 rfl ?_
        obtain ⟨g56, hP⟩ := hP
        refine e_as (n := ((2 * a) + 1).toNatClampNeg) (h' := sI (sI (sI (sI (sI (sI (sI (sI (sI (sI (sI (sI (sI h 405 a.toNatClampNeg b) 406 a.toNatClampNeg c) 407 a.toNatClampNeg 0) 408 a.toNatClampNeg 0) 409 a.toNatClampNeg 0) 410 a.toNatClampNeg 0) 412 a.toNatClampNeg 0) 413 a.toNatClampNeg 0) 414 a.toNatClampNeg 0) 415 a.toNatClampNeg 0) 416 a.toNatClampNeg 0) 417 ((2 * a).toNatClampNeg) 0) 417 (((2 * a) + 1).toNatClampNeg) 0) (pc' := 133) i133_132 rfl (x_alX (a := 20) (by decide) hn55 sh417 (by decide) g56) rfl (by rw [show (SH 417).1 = 20 by rw [sh417]]; rfl) ?_
        have hn57 : 444 ≤ (sI (sI (sI (sI (sI (sI (sI (sI (sI (sI (sI (sI (sI h 405 a.toNatClampNeg b) 406 a.toNatClampNeg c) 407 a.toNatClampNeg 0) 408 a.toNatClampNeg 0) 409 a.toNatClampNeg 0) 410 a.toNatClampNeg 0) 412 a.toNatClampNeg 0) 413 a.toNatClampNeg 0) 414 a.toNatClampNeg 0) 415 a.toNatClampNeg 0) 416 a.toNatClampNeg 0) 417 ((2 * a).toNatClampNeg) 0) 417 (((2 * a) + 1).toNatClampNeg) 0).1 := hn55
        have hL57 : LK (sI (sI (sI (sI (sI (sI (sI (sI (sI (sI (sI (sI (sI h 405 a.toNatClampNeg b) 406 a.toNatClampNeg c) 407 a.toNatClampNeg 0) 408 a.toNatClampNeg 0) 409 a.toNatClampNeg 0) 410 a.toNatClampNeg 0) 412 a.toNatClampNeg 0) 413 a.toNatClampNeg 0) 414 a.toNatClampNeg 0) 415 a.toNatClampNeg 0) 416 a.toNatClampNeg 0) 417 ((2 * a).toNatClampNeg) 0) 417 (((2 * a) + 1).toNatClampNeg) 0) := hL55
        refine e_ld (pc' := 134) i133_133 rfl rfl ?_
        refine e_get (w := .ref 418) (pc' := 137) i133_134 rfl (x_isC (by decide) hn57 sh397) (x_fvR (by decide +kernel) (hL57 397 22 418 lk397_22)) ?_
        refine e_ld (pc' := 138) i133_137 rfl rfl ?_
        refine e_cn (pc' := 139) i133_138 rfl ?_
        obtain ⟨g58, hP⟩ := hP
        refine e_as (n := a.toNatClampNeg) (h' := sI (sI (sI (sI (sI (sI (sI (sI (sI (sI (sI (sI (sI (sI h 405 a.toNatClampNeg b) 406 a.toNatClampNeg c) 407 a.toNatClampNeg 0) 408 a.toNatClampNeg 0) 409 a.toNatClampNeg 0) 410 a.toNatClampNeg 0) 412 a.toNatClampNeg 0) 413 a.toNatClampNeg 0) 414 a.toNatClampNeg 0) 415 a.toNatClampNeg 0) 416 a.toNatClampNeg 0) 417 ((2 * a).toNatClampNeg) 0) 417 (((2 * a) + 1).toNatClampNeg) 0) 418 a.toNatClampNeg 3) (pc' := 140) i133_139 rfl (x_alX (a := 20) (by decide) hn57 sh418 (by decide) g58) rfl (by rw [show (SH 418).1 = 20 by rw [sh418]]; rfl) ?_
        have hn59 : 444 ≤ (sI (sI (sI (sI (sI (sI (sI (sI (sI (sI (sI (sI (sI (sI h 405 a.toNatClampNeg b) 406 a.toNatClampNeg c) 407 a.toNatClampNeg 0) 408 a.toNatClampNeg 0) 409 a.toNatClampNeg 0) 410 a.toNatClampNeg 0) 412 a.toNatClampNeg 0) 413 a.toNatClampNeg 0) 414 a.toNatClampNeg 0) 415 a.toNatClampNeg 0) 416 a.toNatClampNeg 0) 417 ((2 * a).toNatClampNeg) 0) 417 (((2 * a) + 1).toNatClampNeg) 0) 418 a.toNatClampNeg 3).1 := hn57
        have hL59 : LK (sI (sI (sI (sI (sI (sI (sI (sI (sI (sI (sI (sI (sI (sI h 405 a.toNatClampNeg b) 406 a.toNatClampNeg c) 407 a.toNatClampNeg 0) 408 a.toNatClampNeg 0) 409 a.toNatClampNeg 0) 410 a.toNatClampNeg 0) 412 a.toNatClampNeg 0) 413 a.toNatClampNeg 0) 414 a.toNatClampNeg 0) 415 a.toNatClampNeg 0) 416 a.toNatClampNeg 0) 417 ((2 * a).toNatClampNeg) 0) 417 (((2 * a) + 1).toNatClampNeg) 0) 418 a.toNatClampNeg 3) := hL57
        refine e_ld (pc' := 141) i133_140 rfl rfl ?_
        refine e_get (w := .ref 419) (pc' := 144) i133_141 rfl (x_isC (by decide) hn59 sh397) (x_fvR (by decide +kernel) (hL59 397 23 419 lk397_23)) ?_
        refine e_ld (pc' := 145) i133_144 rfl rfl ?_
        refine e_cn (pc' := 146) i133_145 rfl ?_
        obtain ⟨g60, hP⟩ := hP
        refine e_as (n := a.toNatClampNeg) (h' := sI (sI (sI (sI (sI (sI (sI (sI (sI (sI (sI (sI (sI (sI (sI h 405 a.toNatClampNeg b) 406 a.toNatClampNeg c) 407 a.toNatClampNeg 0) 408 a.toNatClampNeg 0) 409 a.toNatClampNeg 0) 410 a.toNatClampNeg 0) 412 a.toNatClampNeg 0) 413 a.toNatClampNeg 0) 414 a.toNatClampNeg 0) 415 a.toNatClampNeg 0) 416 a.toNatClampNeg 0) 417 ((2 * a).toNatClampNeg) 0) 417 (((2 * a) + 1).toNatClampNeg) 0) 418 a.toNatClampNeg 3) 419 a.toNatClampNeg 3) (pc' := 147) i133_146 rfl (x_alX (a := 20) (by decide) hn59 sh419 (by decide) g60) rfl (by rw [show (SH 419).1 = 20 by rw [sh419]]; rfl) ?_
        have hn61 : 444 ≤ (sI (sI (sI (sI (sI (sI (sI (sI (sI (sI (sI (sI (sI (sI (sI h 405 a.toNatClampNeg b) 406 a.toNatClampNeg c) 407 a.toNatClampNeg 0) 408 a.toNatClampNeg 0) 409 a.toNatClampNeg 0) 410 a.toNatClampNeg 0) 412 a.toNatClampNeg 0) 413 a.toNatClampNeg 0) 414 a.toNatClampNeg 0) 415 a.toNatClampNeg 0) 416 a.toNatClampNeg 0) 417 ((2 * a).toNatClampNeg) 0) 417 (((2 * a) + 1).toNatClampNeg) 0) 418 a.toNatClampNeg 3) 419 a.toNatClampNeg 3).1 := hn59
        have hL61 : LK (sI (sI (sI (sI (sI (sI (sI (sI (sI (sI (sI (sI (sI (sI (sI h 405 a.toNatClampNeg b) 406 a.toNatClampNeg c) 407 a.toNatClampNeg 0) 408 a.toNatClampNeg 0) 409 a.toNatClampNeg 0) 410 a.toNatClampNeg 0) 412 a.toNatClampNeg 0) 413 a.toNatClampNeg 0) 414 a.toNatClampNeg 0) 415 a.toNatClampNeg 0) 416 a.toNatClampNeg 0) 417 ((2 * a).toNatClampNeg) 0) 417 (((2 * a) + 1).toNatClampNeg) 0) 418 a.toNatClampNeg 3) 419 a.toNatClampNeg 3) := hL59
        refine e_rt i133_147 rfl ?_
        exact ⟨rfl, by unfold G133; simp only [if_neg (show ¬ (b = 7) from (of_decide_eq_true c3)), if_neg (show ¬ (b = 5) from (of_decide_eq_false c6)), if_neg (show ¬ (b = 6) from (of_decide_eq_true c34))]⟩
      · replace hP := hP.1 (Decidable.not_not.mp (of_decide_eq_false c34))
        refine e_ld (pc' := 42) i133_40 rfl rfl ?_
        refine e_go i133_42 ?_
        obtain ⟨g62, hP⟩ := hP
        refine e_as (n := a.toNatClampNeg) (h' := sI (sI (sI h 405 a.toNatClampNeg b) 406 a.toNatClampNeg c) 407 a.toNatClampNeg d) (pc' := 47) i133_46 rfl (x_alX (a := 20) (by decide) hn5 sh407 (by decide) g62) rfl (by rw [show (SH 407).1 = 20 by rw [sh407]]; rfl) ?_
        have hn63 : 444 ≤ (sI (sI (sI h 405 a.toNatClampNeg b) 406 a.toNatClampNeg c) 407 a.toNatClampNeg d).1 := hn5
        have hL63 : LK (sI (sI (sI h 405 a.toNatClampNeg b) 406 a.toNatClampNeg c) 407 a.toNatClampNeg d) := hL5
        refine e_ld (pc' := 48) i133_47 rfl rfl ?_
        refine e_get (w := .ref 408) (pc' := 51) i133_48 rfl (x_isC (by decide) hn63 sh397) (x_fvR (by decide +kernel) (hL63 397 11 408 lk397_11)) ?_
        refine e_ld (pc' := 52) i133_51 rfl rfl ?_
        refine e_ld (pc' := 53) i133_52 rfl rfl ?_
        refine e_cn (pc' := 54) i133_53 rfl ?_
        refine e_icT i133_54 (decide_eq_true (of_decide_eq_false c6)) ?_
        refine e_cn (pc' := 63) i133_62 rfl ?_
        obtain ⟨g65, hP⟩ := hP
        refine e_as (n := a.toNatClampNeg) (h' := sI (sI (sI (sI h 405 a.toNatClampNeg b) 406 a.toNatClampNeg c) 407 a.toNatClampNeg d) 408 a.toNatClampNeg 0) (pc' := 64) i133_63 rfl (x_alX (a := 20) (by decide) hn63 sh408 (by decide) g65) rfl (by rw [show (SH 408).1 = 20 by rw [sh408]]; rfl) ?_
        have hn66 : 444 ≤ (sI (sI (sI (sI h 405 a.toNatClampNeg b) 406 a.toNatClampNeg c) 407 a.toNatClampNeg d) 408 a.toNatClampNeg 0).1 := hn63
        have hL66 : LK (sI (sI (sI (sI h 405 a.toNatClampNeg b) 406 a.toNatClampNeg c) 407 a.toNatClampNeg d) 408 a.toNatClampNeg 0) := hL63
        refine e_ld (pc' := 65) i133_64 rfl rfl ?_
        refine e_get (w := .ref 409) (pc' := 68) i133_65 rfl (x_isC (by decide) hn66 sh397) (x_fvR (by decide +kernel) (hL66 397 12 409 lk397_12)) ?_
        refine e_ld (pc' := 69) i133_68 rfl rfl ?_
        refine e_cn (pc' := 70) i133_69 rfl ?_
        obtain ⟨g67, hP⟩ := hP
        refine e_as (n := a.toNatClampNeg) (h' := sI (sI (sI (sI (sI h 405 a.toNatClampNeg b) 406 a.toNatClampNeg c) 407 a.toNatClampNeg d) 408 a.toNatClampNeg 0) 409 a.toNatClampNeg 0) (pc' := 71) i133_70 rfl (x_alX (a := 20) (by decide) hn66 sh409 (by decide) g67) rfl (by rw [show (SH 409).1 = 20 by rw [sh409]]; rfl) ?_
        have hn68 : 444 ≤ (sI (sI (sI (sI (sI h 405 a.toNatClampNeg b) 406 a.toNatClampNeg c) 407 a.toNatClampNeg d) 408 a.toNatClampNeg 0) 409 a.toNatClampNeg 0).1 := hn66
        have hL68 : LK (sI (sI (sI (sI (sI h 405 a.toNatClampNeg b) 406 a.toNatClampNeg c) 407 a.toNatClampNeg d) 408 a.toNatClampNeg 0) 409 a.toNatClampNeg 0) := hL66
        refine e_ld (pc' := 72) i133_71 rfl rfl ?_
        refine e_get (w := .ref 410) (pc' := 75) i133_72 rfl (x_isC (by decide) hn68 sh397) (x_fvR (by decide +kernel) (hL68 397 13 410 lk397_13)) ?_
        refine e_ld (pc' := 76) i133_75 rfl rfl ?_
        refine e_cn (pc' := 77) i133_76 rfl ?_
        obtain ⟨g69, hP⟩ := hP
        refine e_as (n := a.toNatClampNeg) (h' := sI (sI (sI (sI (sI (sI h 405 a.toNatClampNeg b) 406 a.toNatClampNeg c) 407 a.toNatClampNeg d) 408 a.toNatClampNeg 0) 409 a.toNatClampNeg 0) 410 a.toNatClampNeg 0) (pc' := 78) i133_77 rfl (x_alX (a := 20) (by decide) hn68 sh410 (by decide) g69) rfl (by rw [show (SH 410).1 = 20 by rw [sh410]]; rfl) ?_
        have hn70 : 444 ≤ (sI (sI (sI (sI (sI (sI h 405 a.toNatClampNeg b) 406 a.toNatClampNeg c) 407 a.toNatClampNeg d) 408 a.toNatClampNeg 0) 409 a.toNatClampNeg 0) 410 a.toNatClampNeg 0).1 := hn68
        have hL70 : LK (sI (sI (sI (sI (sI (sI h 405 a.toNatClampNeg b) 406 a.toNatClampNeg c) 407 a.toNatClampNeg d) 408 a.toNatClampNeg 0) 409 a.toNatClampNeg 0) 410 a.toNatClampNeg 0) := hL68
        refine e_ld (pc' := 79) i133_78 rfl rfl ?_
        refine e_get (w := .ref 412) (pc' := 82) i133_79 rfl (x_isC (by decide) hn70 sh397) (x_fvR (by decide +kernel) (hL70 397 16 412 lk397_16)) ?_
        refine e_ld (pc' := 83) i133_82 rfl rfl ?_
        refine e_cn (pc' := 84) i133_83 rfl ?_
        obtain ⟨g71, hP⟩ := hP
        refine e_as (n := a.toNatClampNeg) (h' := sI (sI (sI (sI (sI (sI (sI h 405 a.toNatClampNeg b) 406 a.toNatClampNeg c) 407 a.toNatClampNeg d) 408 a.toNatClampNeg 0) 409 a.toNatClampNeg 0) 410 a.toNatClampNeg 0) 412 a.toNatClampNeg 0) (pc' := 85) i133_84 rfl (x_alX (a := 20) (by decide) hn70 sh412 (by decide) g71) rfl (by rw [show (SH 412).1 = 20 by rw [sh412]]; rfl) ?_
        have hn72 : 444 ≤ (sI (sI (sI (sI (sI (sI (sI h 405 a.toNatClampNeg b) 406 a.toNatClampNeg c) 407 a.toNatClampNeg d) 408 a.toNatClampNeg 0) 409 a.toNatClampNeg 0) 410 a.toNatClampNeg 0) 412 a.toNatClampNeg 0).1 := hn70
        have hL72 : LK (sI (sI (sI (sI (sI (sI (sI h 405 a.toNatClampNeg b) 406 a.toNatClampNeg c) 407 a.toNatClampNeg d) 408 a.toNatClampNeg 0) 409 a.toNatClampNeg 0) 410 a.toNatClampNeg 0) 412 a.toNatClampNeg 0) := hL70
        refine e_ld (pc' := 86) i133_85 rfl rfl ?_
        refine e_get (w := .ref 413) (pc' := 89) i133_86 rfl (x_isC (by decide) hn72 sh397) (x_fvR (by decide +kernel) (hL72 397 17 413 lk397_17)) ?_
        refine e_ld (pc' := 90) i133_89 rfl rfl ?_
        refine e_cn (pc' := 91) i133_90 rfl ?_
        obtain ⟨g73, hP⟩ := hP
        refine e_as (n := a.toNatClampNeg) (h' := sI (sI (sI (sI (sI (sI (sI (sI h 405 a.toNatClampNeg b) 406 a.toNatClampNeg c) 407 a.toNatClampNeg d) 408 a.toNatClampNeg 0) 409 a.toNatClampNeg 0) 410 a.toNatClampNeg 0) 412 a.toNatClampNeg 0) 413 a.toNatClampNeg 0) (pc' := 92) i133_91 rfl (x_alX (a := 20) (by decide) hn72 sh413 (by decide) g73) rfl (by rw [show (SH 413).1 = 20 by rw [sh413]]; rfl) ?_
        have hn74 : 444 ≤ (sI (sI (sI (sI (sI (sI (sI (sI h 405 a.toNatClampNeg b) 406 a.toNatClampNeg c) 407 a.toNatClampNeg d) 408 a.toNatClampNeg 0) 409 a.toNatClampNeg 0) 410 a.toNatClampNeg 0) 412 a.toNatClampNeg 0) 413 a.toNatClampNeg 0).1 := hn72
        have hL74 : LK (sI (sI (sI (sI (sI (sI (sI (sI h 405 a.toNatClampNeg b) 406 a.toNatClampNeg c) 407 a.toNatClampNeg d) 408 a.toNatClampNeg 0) 409 a.toNatClampNeg 0) 410 a.toNatClampNeg 0) 412 a.toNatClampNeg 0) 413 a.toNatClampNeg 0) := hL72
        refine e_ld (pc' := 93) i133_92 rfl rfl ?_
        refine e_get (w := .ref 414) (pc' := 96) i133_93 rfl (x_isC (by decide) hn74 sh397) (x_fvR (by decide +kernel) (hL74 397 18 414 lk397_18)) ?_
        refine e_ld (pc' := 97) i133_96 rfl rfl ?_
        refine e_cn (pc' := 98) i133_97 rfl ?_
        obtain ⟨g75, hP⟩ := hP
        refine e_as (n := a.toNatClampNeg) (h' := sI (sI (sI (sI (sI (sI (sI (sI (sI h 405 a.toNatClampNeg b) 406 a.toNatClampNeg c) 407 a.toNatClampNeg d) 408 a.toNatClampNeg 0) 409 a.toNatClampNeg 0) 410 a.toNatClampNeg 0) 412 a.toNatClampNeg 0) 413 a.toNatClampNeg 0) 414 a.toNatClampNeg 0) (pc' := 99) i133_98 rfl (x_alX (a := 20) (by decide) hn74 sh414 (by decide) g75) rfl (by rw [show (SH 414).1 = 20 by rw [sh414]]; rfl) ?_
        have hn76 : 444 ≤ (sI (sI (sI (sI (sI (sI (sI (sI (sI h 405 a.toNatClampNeg b) 406 a.toNatClampNeg c) 407 a.toNatClampNeg d) 408 a.toNatClampNeg 0) 409 a.toNatClampNeg 0) 410 a.toNatClampNeg 0) 412 a.toNatClampNeg 0) 413 a.toNatClampNeg 0) 414 a.toNatClampNeg 0).1 := hn74
        have hL76 : LK (sI (sI (sI (sI (sI (sI (sI (sI (sI h 405 a.toNatClampNeg b) 406 a.toNatClampNeg c) 407 a.toNatClampNeg d) 408 a.toNatClampNeg 0) 409 a.toNatClampNeg 0) 410 a.toNatClampNeg 0) 412 a.toNatClampNeg 0) 413 a.toNatClampNeg 0) 414 a.toNatClampNeg 0) := hL74
        refine e_ld (pc' := 100) i133_99 rfl rfl ?_
        refine e_get (w := .ref 415) (pc' := 103) i133_100 rfl (x_isC (by decide) hn76 sh397) (x_fvR (by decide +kernel) (hL76 397 19 415 lk397_19)) ?_
        refine e_ld (pc' := 104) i133_103 rfl rfl ?_
        refine e_cn (pc' := 105) i133_104 rfl ?_
        obtain ⟨g77, hP⟩ := hP
        refine e_as (n := a.toNatClampNeg) (h' := sI (sI (sI (sI (sI (sI (sI (sI (sI (sI h 405 a.toNatClampNeg b) 406 a.toNatClampNeg c) 407 a.toNatClampNeg d) 408 a.toNatClampNeg 0) 409 a.toNatClampNeg 0) 410 a.toNatClampNeg 0) 412 a.toNatClampNeg 0) 413 a.toNatClampNeg 0) 414 a.toNatClampNeg 0) 415 a.toNatClampNeg 0) (pc' := 106) i133_105 rfl (x_alX (a := 20) (by decide) hn76 sh415 (by decide) g77) rfl (by rw [show (SH 415).1 = 20 by rw [sh415]]; rfl) ?_
        have hn78 : 444 ≤ (sI (sI (sI (sI (sI (sI (sI (sI (sI (sI h 405 a.toNatClampNeg b) 406 a.toNatClampNeg c) 407 a.toNatClampNeg d) 408 a.toNatClampNeg 0) 409 a.toNatClampNeg 0) 410 a.toNatClampNeg 0) 412 a.toNatClampNeg 0) 413 a.toNatClampNeg 0) 414 a.toNatClampNeg 0) 415 a.toNatClampNeg 0).1 := hn76
        have hL78 : LK (sI (sI (sI (sI (sI (sI (sI (sI (sI (sI h 405 a.toNatClampNeg b) 406 a.toNatClampNeg c) 407 a.toNatClampNeg d) 408 a.toNatClampNeg 0) 409 a.toNatClampNeg 0) 410 a.toNatClampNeg 0) 412 a.toNatClampNeg 0) 413 a.toNatClampNeg 0) 414 a.toNatClampNeg 0) 415 a.toNatClampNeg 0) := hL76
        refine e_ld (pc' := 107) i133_106 rfl rfl ?_
        refine e_get (w := .ref 416) (pc' := 110) i133_107 rfl (x_isC (by decide) hn78 sh397) (x_fvR (by decide +kernel) (hL78 397 20 416 lk397_20)) ?_
        refine e_ld (pc' := 111) i133_110 rfl rfl ?_
        refine e_cn (pc' := 112) i133_111 rfl ?_
        obtain ⟨g79, hP⟩ := hP
        refine e_as (n := a.toNatClampNeg) (h' := sI (sI (sI (sI (sI (sI (sI (sI (sI (sI (sI h 405 a.toNatClampNeg b) 406 a.toNatClampNeg c) 407 a.toNatClampNeg d) 408 a.toNatClampNeg 0) 409 a.toNatClampNeg 0) 410 a.toNatClampNeg 0) 412 a.toNatClampNeg 0) 413 a.toNatClampNeg 0) 414 a.toNatClampNeg 0) 415 a.toNatClampNeg 0) 416 a.toNatClampNeg 0) (pc' := 113) i133_112 rfl (x_alX (a := 22) (by decide) hn78 sh416 (by decide) g79) rfl (by rw [show (SH 416).1 = 22 by rw [sh416]]; rfl) ?_
        have hn80 : 444 ≤ (sI (sI (sI (sI (sI (sI (sI (sI (sI (sI (sI h 405 a.toNatClampNeg b) 406 a.toNatClampNeg c) 407 a.toNatClampNeg d) 408 a.toNatClampNeg 0) 409 a.toNatClampNeg 0) 410 a.toNatClampNeg 0) 412 a.toNatClampNeg 0) 413 a.toNatClampNeg 0) 414 a.toNatClampNeg 0) 415 a.toNatClampNeg 0) 416 a.toNatClampNeg 0).1 := hn78
        have hL80 : LK (sI (sI (sI (sI (sI (sI (sI (sI (sI (sI (sI h 405 a.toNatClampNeg b) 406 a.toNatClampNeg c) 407 a.toNatClampNeg d) 408 a.toNatClampNeg 0) 409 a.toNatClampNeg 0) 410 a.toNatClampNeg 0) 412 a.toNatClampNeg 0) 413 a.toNatClampNeg 0) 414 a.toNatClampNeg 0) 415 a.toNatClampNeg 0) 416 a.toNatClampNeg 0) := hL78
        refine e_ld (pc' := 114) i133_113 rfl rfl ?_
        refine e_get (w := .ref 417) (pc' := 117) i133_114 rfl (x_isC (by decide) hn80 sh397) (x_fvR (by decide +kernel) (hL80 397 21 417 lk397_21)) ?_
        refine e_cn (pc' := 118) i133_117 rfl ?_
        refine e_ld (pc' := 119) i133_118 rfl rfl ?_
        refine e_ib (z := 2 * a) (pc' := 120) i133_119 rfl rfl ?_
        refine e_cn (pc' := 121) i133_120 rfl ?_
        obtain ⟨g81, hP⟩ := hP
        refine e_as (n := (2 * a).toNatClampNeg) (h' := sI (sI (sI (sI (sI (sI (sI (sI (sI (sI (sI (sI h 405 a.toNatClampNeg b) 406 a.toNatClampNeg c) 407 a.toNatClampNeg d) 408 a.toNatClampNeg 0) 409 a.toNatClampNeg 0) 410 a.toNatClampNeg 0) 412 a.toNatClampNeg 0) 413 a.toNatClampNeg 0) 414 a.toNatClampNeg 0) 415 a.toNatClampNeg 0) 416 a.toNatClampNeg 0) 417 ((2 * a).toNatClampNeg) 0) (pc' := 122) i133_121 rfl (x_alX (a := 20) (by decide) hn80 sh417 (by decide) g81) rfl (by rw [show (SH 417).1 = 20 by rw [sh417]]; rfl) ?_
        have hn82 : 444 ≤ (sI (sI (sI (sI (sI (sI (sI (sI (sI (sI (sI (sI h 405 a.toNatClampNeg b) 406 a.toNatClampNeg c) 407 a.toNatClampNeg d) 408 a.toNatClampNeg 0) 409 a.toNatClampNeg 0) 410 a.toNatClampNeg 0) 412 a.toNatClampNeg 0) 413 a.toNatClampNeg 0) 414 a.toNatClampNeg 0) 415 a.toNatClampNeg 0) 416 a.toNatClampNeg 0) 417 ((2 * a).toNatClampNeg) 0).1 := hn80
        have hL82 : LK (sI (sI (sI (sI (sI (sI (sI (sI (sI (sI (sI (sI h 405 a.toNatClampNeg b) 406 a.toNatClampNeg c) 407 a.toNatClampNeg d) 408 a.toNatClampNeg 0) 409 a.toNatClampNeg 0) 410 a.toNatClampNeg 0) 412 a.toNatClampNeg 0) 413 a.toNatClampNeg 0) 414 a.toNatClampNeg 0) 415 a.toNatClampNeg 0) 416 a.toNatClampNeg 0) 417 ((2 * a).toNatClampNeg) 0) := hL80
        refine e_ld (pc' := 123) i133_122 rfl rfl ?_
        refine e_get (w := .ref 417) (pc' := 126) i133_123 rfl (x_isC (by decide) hn82 sh397) (x_fvR (by decide +kernel) (hL82 397 21 417 lk397_21)) ?_
        refine e_cn (pc' := 127) i133_126 rfl ?_
        refine e_ld (pc' := 128) i133_127 rfl rfl ?_
        refine e_ib (z := 2 * a) (pc' := 129) i133_128 rfl rfl ?_
        refine e_cn (pc' := 130) i133_129 rfl ?_
        refine e_ib (z := (2 * a) + 1) (pc' := 131) i133_130 rfl rfl ?_
        refine e_cn (pc' := 132) i133_131 rfl ?_
        obtain ⟨g83, hP⟩ := hP
        refine e_as (n := ((2 * a) + 1).toNatClampNeg) (h' := sI (sI (sI (sI (sI (sI (sI (sI (sI (sI (sI (sI (sI h 405 a.toNatClampNeg b) 406 a.toNatClampNeg c) 407 a.toNatClampNeg d) 408 a.toNatClampNeg 0) 409 a.toNatClampNeg 0) 410 a.toNatClampNeg 0) 412 a.toNatClampNeg 0) 413 a.toNatClampNeg 0) 414 a.toNatClampNeg 0) 415 a.toNatClampNeg 0) 416 a.toNatClampNeg 0) 417 ((2 * a).toNatClampNeg) 0) 417 (((2 * a) + 1).toNatClampNeg) 0) (pc' := 133) i133_132 rfl (x_alX (a := 20) (by decide) hn82 sh417 (by decide) g83) rfl (by rw [show (SH 417).1 = 20 by rw [sh417]]; rfl) ?_
        have hn84 : 444 ≤ (sI (sI (sI (sI (sI (sI (sI (sI (sI (sI (sI (sI (sI h 405 a.toNatClampNeg b) 406 a.toNatClampNeg c) 407 a.toNatClampNeg d) 408 a.toNatClampNeg 0) 409 a.toNatClampNeg 0) 410 a.toNatClampNeg 0) 412 a.toNatClampNeg 0) 413 a.toNatClampNeg 0) 414 a.toNatClampNeg 0) 415 a.toNatClampNeg 0) 416 a.toNatClampNeg 0) 417 ((2 * a).toNatClampNeg) 0) 417 (((2 * a) + 1).toNatClampNeg) 0).1 := hn82
        have hL84 : LK (sI (sI (sI (sI (sI (sI (sI (sI (sI (sI (sI (sI (sI h 405 a.toNatClampNeg b) 406 a.toNatClampNeg c) 407 a.toNatClampNeg d) 408 a.toNatClampNeg 0) 409 a.toNatClampNeg 0) 410 a.toNatClampNeg 0) 412 a.toNatClampNeg 0) 413 a.toNatClampNeg 0) 414 a.toNatClampNeg 0) 415 a.toNatClampNeg 0) 416 a.toNatClampNeg 0) 417 ((2 * a).toNatClampNeg) 0) 417 (((2 * a) + 1).toNatClampNeg) 0) := hL82
        refine e_ld (pc' := 134) i133_133 rfl rfl ?_
        refine e_get (w := .ref 418) (pc' := 137) i133_134 rfl (x_isC (by decide) hn84 sh397) (x_fvR (by decide +kernel) (hL84 397 22 418 lk397_22)) ?_
        refine e_ld (pc' := 138) i133_137 rfl rfl ?_
        refine e_cn (pc' := 139) i133_138 rfl ?_
        obtain ⟨g85, hP⟩ := hP
        refine e_as (n := a.toNatClampNeg) (h' := sI (sI (sI (sI (sI (sI (sI (sI (sI (sI (sI (sI (sI (sI h 405 a.toNatClampNeg b) 406 a.toNatClampNeg c) 407 a.toNatClampNeg d) 408 a.toNatClampNeg 0) 409 a.toNatClampNeg 0) 410 a.toNatClampNeg 0) 412 a.toNatClampNeg 0) 413 a.toNatClampNeg 0) 414 a.toNatClampNeg 0) 415 a.toNatClampNeg 0) 416 a.toNatClampNeg 0) 417 ((2 * a).toNatClampNeg) 0) 417 (((2 * a) + 1).toNatClampNeg) 0) 418 a.toNatClampNeg 3) (pc' := 140) i133_139 rfl (x_alX (a := 20) (by decide) hn84 sh418 (by decide) g85) rfl (by rw [show (SH 418).1 = 20 by rw [sh418]]; rfl) ?_
        have hn86 : 444 ≤ (sI (sI (sI (sI (sI (sI (sI (sI (sI (sI (sI (sI (sI (sI h 405 a.toNatClampNeg b) 406 a.toNatClampNeg c) 407 a.toNatClampNeg d) 408 a.toNatClampNeg 0) 409 a.toNatClampNeg 0) 410 a.toNatClampNeg 0) 412 a.toNatClampNeg 0) 413 a.toNatClampNeg 0) 414 a.toNatClampNeg 0) 415 a.toNatClampNeg 0) 416 a.toNatClampNeg 0) 417 ((2 * a).toNatClampNeg) 0) 417 (((2 * a) + 1).toNatClampNeg) 0) 418 a.toNatClampNeg 3).1 := hn84
        have hL86 : LK (sI (sI (sI (sI (sI (sI (sI (sI (sI (sI (sI (sI (sI (sI h 405 a.toNatClampNeg b) 406 a.toNatClampNeg c) 407 a.toNatClampNeg d) 408 a.toNatClampNeg 0) 409 a.toNatClampNeg 0) 410 a.toNatClampNeg 0) 412 a.toNatClampNeg 0) 413 a.toNatClampNeg 0) 414 a.toNatClampNeg 0) 415 a.toNatClampNeg 0) 416 a.toNatClampNeg 0) 417 ((2 * a).toNatClampNeg) 0) 417 (((2 * a) + 1).toNatClampNeg) 0) 418 a.toNatClampNeg 3) := hL84
        refine e_ld (pc' := 141) i133_140 rfl rfl ?_
        refine e_get (w := .ref 419) (pc' := 144) i133_141 rfl (x_isC (by decide) hn86 sh397) (x_fvR (by decide +kernel) (hL86 397 23 419 lk397_23)) ?_
        refine e_ld (pc' := 145) i133_144 rfl rfl ?_
        refine e_cn (pc' := 146) i133_145 rfl ?_
        obtain ⟨g87, hP⟩ := hP
        refine e_as (n := a.toNatClampNeg) (h' := sI (sI (sI (sI (sI (sI (sI (sI (sI (sI (sI (sI (sI (sI (sI h 405 a.toNatClampNeg b) 406 a.toNatClampNeg c) 407 a.toNatClampNeg d) 408 a.toNatClampNeg 0) 409 a.toNatClampNeg 0) 410 a.toNatClampNeg 0) 412 a.toNatClampNeg 0) 413 a.toNatClampNeg 0) 414 a.toNatClampNeg 0) 415 a.toNatClampNeg 0) 416 a.toNatClampNeg 0) 417 ((2 * a).toNatClampNeg) 0) 417 (((2 * a) + 1).toNatClampNeg) 0) 418 a.toNatClampNeg 3) 419 a.toNatClampNeg 3) (pc' := 147) i133_146 rfl (x_alX (a := 20) (by decide) hn86 sh419 (by decide) g87) rfl (by rw [show (SH 419).1 = 20 by rw [sh419]]; rfl) ?_
        have hn88 : 444 ≤ (sI (sI (sI (sI (sI (sI (sI (sI (sI (sI (sI (sI (sI (sI (sI h 405 a.toNatClampNeg b) 406 a.toNatClampNeg c) 407 a.toNatClampNeg d) 408 a.toNatClampNeg 0) 409 a.toNatClampNeg 0) 410 a.toNatClampNeg 0) 412 a.toNatClampNeg 0) 413 a.toNatClampNeg 0) 414 a.toNatClampNeg 0) 415 a.toNatClampNeg 0) 416 a.toNatClampNeg 0) 417 ((2 * a).toNatClampNeg) 0) 417 (((2 * a) + 1).toNatClampNeg) 0) 418 a.toNatClampNeg 3) 419 a.toNatClampNeg 3).1 := hn86
        have hL88 : LK (sI (sI (sI (sI (sI (sI (sI (sI (sI (sI (sI (sI (sI (sI (sI h 405 a.toNatClampNeg b) 406 a.toNatClampNeg c) 407 a.toNatClampNeg d) 408 a.toNatClampNeg 0) 409 a.toNatClampNeg 0) 410 a.toNatClampNeg 0) 412 a.toNatClampNeg 0) 413 a.toNatClampNeg 0) 414 a.toNatClampNeg 0) 415 a.toNatClampNeg 0) 416 a.toNatClampNeg 0) 417 ((2 * a).toNatClampNeg) 0) 417 (((2 * a) + 1).toNatClampNeg) 0) 418 a.toNatClampNeg 3) 419 a.toNatClampNeg 3) := hL86
        refine e_rt i133_147 rfl ?_
        exact ⟨rfl, by unfold G133; simp only [if_neg (show ¬ (b = 7) from (of_decide_eq_true c3)), if_neg (show ¬ (b = 5) from (of_decide_eq_false c6)), if_pos (show b = 6 from (Decidable.not_not.mp (of_decide_eq_false c34)))]⟩
  · replace hP := hP.1 (Decidable.not_not.mp (of_decide_eq_false c3))
    refine e_cn (pc' := 19) i133_18 rfl ?_
    refine e_go i133_19 ?_
    obtain ⟨g89, hP⟩ := hP
    refine e_as (n := a.toNatClampNeg) (h' := sI (sI h 405 a.toNatClampNeg b) 406 a.toNatClampNeg 0) (pc' := 24) i133_23 rfl (x_alX (a := 20) (by decide) hn2 sh406 (by decide) g89) rfl (by rw [show (SH 406).1 = 20 by rw [sh406]]; rfl) ?_
    have hn90 : 444 ≤ (sI (sI h 405 a.toNatClampNeg b) 406 a.toNatClampNeg 0).1 := hn2
    have hL90 : LK (sI (sI h 405 a.toNatClampNeg b) 406 a.toNatClampNeg 0) := hL2
    refine e_ld (pc' := 25) i133_24 rfl rfl ?_
    refine e_get (w := .ref 407) (pc' := 28) i133_25 rfl (x_isC (by decide) hn90 sh397) (x_fvR (by decide +kernel) (hL90 397 10 407 lk397_10)) ?_
    refine e_ld (pc' := 29) i133_28 rfl rfl ?_
    refine e_ld (pc' := 30) i133_29 rfl rfl ?_
    refine e_cn (pc' := 31) i133_30 rfl ?_
    refine e_ic (pc' := 34) i133_31 rfl (fun c91 => ?_) (fun c91 => ?_)
    · replace hP := hP.1 (of_decide_eq_true c91)
      refine e_ld (pc' := 42) i133_40 rfl rfl ?_
      refine e_go i133_42 ?_
      obtain ⟨g92, hP⟩ := hP
      refine e_as (n := a.toNatClampNeg) (h' := sI (sI (sI h 405 a.toNatClampNeg b) 406 a.toNatClampNeg 0) 407 a.toNatClampNeg d) (pc' := 47) i133_46 rfl (x_alX (a := 20) (by decide) hn90 sh407 (by decide) g92) rfl (by rw [show (SH 407).1 = 20 by rw [sh407]]; rfl) ?_
      have hn93 : 444 ≤ (sI (sI (sI h 405 a.toNatClampNeg b) 406 a.toNatClampNeg 0) 407 a.toNatClampNeg d).1 := hn90
      have hL93 : LK (sI (sI (sI h 405 a.toNatClampNeg b) 406 a.toNatClampNeg 0) 407 a.toNatClampNeg d) := hL90
      refine e_ld (pc' := 48) i133_47 rfl rfl ?_
      refine e_get (w := .ref 408) (pc' := 51) i133_48 rfl (x_isC (by decide) hn93 sh397) (x_fvR (by decide +kernel) (hL93 397 11 408 lk397_11)) ?_
      refine e_ld (pc' := 52) i133_51 rfl rfl ?_
      refine e_ld (pc' := 53) i133_52 rfl rfl ?_
      refine e_cn (pc' := 54) i133_53 rfl ?_
      refine e_icF (pc' := 57) i133_54 rfl (decide_eq_false (not_not_intro (of_decide_eq_true c91))) ?_
      refine e_ld (pc' := 59) i133_57 rfl rfl ?_
      refine e_go i133_59 ?_
      obtain ⟨g95, hP⟩ := hP
      refine e_as (n := a.toNatClampNeg) (h' := sI (sI (sI (sI h 405 a.toNatClampNeg b) 406 a.toNatClampNeg 0) 407 a.toNatClampNeg d) 408 a.toNatClampNeg e) (pc' := 64) i133_63 rfl (x_alX (a := 20) (by decide) hn93 sh408 (by decide) g95) rfl (by rw [show (SH 408).1 = 20 by rw [sh408]]; rfl) ?_
      have hn96 : 444 ≤ (sI (sI (sI (sI h 405 a.toNatClampNeg b) 406 a.toNatClampNeg 0) 407 a.toNatClampNeg d) 408 a.toNatClampNeg e).1 := hn93
      have hL96 : LK (sI (sI (sI (sI h 405 a.toNatClampNeg b) 406 a.toNatClampNeg 0) 407 a.toNatClampNeg d) 408 a.toNatClampNeg e) := hL93
      refine e_ld (pc' := 65) i133_64 rfl rfl ?_
      refine e_get (w := .ref 409) (pc' := 68) i133_65 rfl (x_isC (by decide) hn96 sh397) (x_fvR (by decide +kernel) (hL96 397 12 409 lk397_12)) ?_
      refine e_ld (pc' := 69) i133_68 rfl rfl ?_
      refine e_cn (pc' := 70) i133_69 rfl ?_
      obtain ⟨g97, hP⟩ := hP
      refine e_as (n := a.toNatClampNeg) (h' := sI (sI (sI (sI (sI h 405 a.toNatClampNeg b) 406 a.toNatClampNeg 0) 407 a.toNatClampNeg d) 408 a.toNatClampNeg e) 409 a.toNatClampNeg 0) (pc' := 71) i133_70 rfl (x_alX (a := 20) (by decide) hn96 sh409 (by decide) g97) rfl (by rw [show (SH 409).1 = 20 by rw [sh409]]; rfl) ?_
      have hn98 : 444 ≤ (sI (sI (sI (sI (sI h 405 a.toNatClampNeg b) 406 a.toNatClampNeg 0) 407 a.toNatClampNeg d) 408 a.toNatClampNeg e) 409 a.toNatClampNeg 0).1 := hn96
      have hL98 : LK (sI (sI (sI (sI (sI h 405 a.toNatClampNeg b) 406 a.toNatClampNeg 0) 407 a.toNatClampNeg d) 408 a.toNatClampNeg e) 409 a.toNatClampNeg 0) := hL96
      refine e_ld (pc' := 72) i133_71 rfl rfl ?_
      refine e_get (w := .ref 410) (pc' := 75) i133_72 rfl (x_isC (by decide) hn98 sh397) (x_fvR (by decide +kernel) (hL98 397 13 410 lk397_13)) ?_
      refine e_ld (pc' := 76) i133_75 rfl rfl ?_
      refine e_cn (pc' := 77) i133_76 rfl ?_
      obtain ⟨g99, hP⟩ := hP
      refine e_as (n := a.toNatClampNeg) (h' := sI (sI (sI (sI (sI (sI h 405 a.toNatClampNeg b) 406 a.toNatClampNeg 0) 407 a.toNatClampNeg d) 408 a.toNatClampNeg e) 409 a.toNatClampNeg 0) 410 a.toNatClampNeg 0) (pc' := 78) i133_77 rfl (x_alX (a := 20) (by decide) hn98 sh410 (by decide) g99) rfl (by rw [show (SH 410).1 = 20 by rw [sh410]]; rfl) ?_
      have hn100 : 444 ≤ (sI (sI (sI (sI (sI (sI h 405 a.toNatClampNeg b) 406 a.toNatClampNeg 0) 407 a.toNatClampNeg d) 408 a.toNatClampNeg e) 409 a.toNatClampNeg 0) 410 a.toNatClampNeg 0).1 := hn98
      have hL100 : LK (sI (sI (sI (sI (sI (sI h 405 a.toNatClampNeg b) 406 a.toNatClampNeg 0) 407 a.toNatClampNeg d) 408 a.toNatClampNeg e) 409 a.toNatClampNeg 0) 410 a.toNatClampNeg 0) := hL98
      refine e_ld (pc' := 79) i133_78 rfl rfl ?_
      refine e_get (w := .ref 412) (pc' := 82) i133_79 rfl (x_isC (by decide) hn100 sh397) (x_fvR (by decide +kernel) (hL100 397 16 412 lk397_16)) ?_
      refine e_ld (pc' := 83) i133_82 rfl rfl ?_
      refine e_cn (pc' := 84) i133_83 rfl ?_
      obtain ⟨g101, hP⟩ := hP
      refine e_as (n := a.toNatClampNeg) (h' := sI (sI (sI (sI (sI (sI (sI h 405 a.toNatClampNeg b) 406 a.toNatClampNeg 0) 407 a.toNatClampNeg d) 408 a.toNatClampNeg e) 409 a.toNatClampNeg 0) 410 a.toNatClampNeg 0) 412 a.toNatClampNeg 0) (pc' := 85) i133_84 rfl (x_alX (a := 20) (by decide) hn100 sh412 (by decide) g101) rfl (by rw [show (SH 412).1 = 20 by rw [sh412]]; rfl) ?_
      have hn102 : 444 ≤ (sI (sI (sI (sI (sI (sI (sI h 405 a.toNatClampNeg b) 406 a.toNatClampNeg 0) 407 a.toNatClampNeg d) 408 a.toNatClampNeg e) 409 a.toNatClampNeg 0) 410 a.toNatClampNeg 0) 412 a.toNatClampNeg 0).1 := hn100
      have hL102 : LK (sI (sI (sI (sI (sI (sI (sI h 405 a.toNatClampNeg b) 406 a.toNatClampNeg 0) 407 a.toNatClampNeg d) 408 a.toNatClampNeg e) 409 a.toNatClampNeg 0) 410 a.toNatClampNeg 0) 412 a.toNatClampNeg 0) := hL100
      refine e_ld (pc' := 86) i133_85 rfl rfl ?_
      refine e_get (w := .ref 413) (pc' := 89) i133_86 rfl (x_isC (by decide) hn102 sh397) (x_fvR (by decide +kernel) (hL102 397 17 413 lk397_17)) ?_
      refine e_ld (pc' := 90) i133_89 rfl rfl ?_
      refine e_cn (pc' := 91) i133_90 rfl ?_
      obtain ⟨g103, hP⟩ := hP
      refine e_as (n := a.toNatClampNeg) (h' := sI (sI (sI (sI (sI (sI (sI (sI h 405 a.toNatClampNeg b) 406 a.toNatClampNeg 0) 407 a.toNatClampNeg d) 408 a.toNatClampNeg e) 409 a.toNatClampNeg 0) 410 a.toNatClampNeg 0) 412 a.toNatClampNeg 0) 413 a.toNatClampNeg 0) (pc' := 92) i133_91 rfl (x_alX (a := 20) (by decide) hn102 sh413 (by decide) g103) rfl (by rw [show (SH 413).1 = 20 by rw [sh413]]; rfl) ?_
      have hn104 : 444 ≤ (sI (sI (sI (sI (sI (sI (sI (sI h 405 a.toNatClampNeg b) 406 a.toNatClampNeg 0) 407 a.toNatClampNeg d) 408 a.toNatClampNeg e) 409 a.toNatClampNeg 0) 410 a.toNatClampNeg 0) 412 a.toNatClampNeg 0) 413 a.toNatClampNeg 0).1 := hn102
      have hL104 : LK (sI (sI (sI (sI (sI (sI (sI (sI h 405 a.toNatClampNeg b) 406 a.toNatClampNeg 0) 407 a.toNatClampNeg d) 408 a.toNatClampNeg e) 409 a.toNatClampNeg 0) 410 a.toNatClampNeg 0) 412 a.toNatClampNeg 0) 413 a.toNatClampNeg 0) := hL102
      refine e_ld (pc' := 93) i133_92 rfl rfl ?_
      refine e_get (w := .ref 414) (pc' := 96) i133_93 rfl (x_isC (by decide) hn104 sh397) (x_fvR (by decide +kernel) (hL104 397 18 414 lk397_18)) ?_
      refine e_ld (pc' := 97) i133_96 rfl rfl ?_
      refine e_cn (pc' := 98) i133_97 rfl ?_
      obtain ⟨g105, hP⟩ := hP
      refine e_as (n := a.toNatClampNeg) (h' := sI (sI (sI (sI (sI (sI (sI (sI (sI h 405 a.toNatClampNeg b) 406 a.toNatClampNeg 0) 407 a.toNatClampNeg d) 408 a.toNatClampNeg e) 409 a.toNatClampNeg 0) 410 a.toNatClampNeg 0) 412 a.toNatClampNeg 0) 413 a.toNatClampNeg 0) 414 a.toNatClampNeg 0) (pc' := 99) i133_98 rfl (x_alX (a := 20) (by decide) hn104 sh414 (by decide) g105) rfl (by rw [show (SH 414).1 = 20 by rw [sh414]]; rfl) ?_
      have hn106 : 444 ≤ (sI (sI (sI (sI (sI (sI (sI (sI (sI h 405 a.toNatClampNeg b) 406 a.toNatClampNeg 0) 407 a.toNatClampNeg d) 408 a.toNatClampNeg e) 409 a.toNatClampNeg 0) 410 a.toNatClampNeg 0) 412 a.toNatClampNeg 0) 413 a.toNatClampNeg 0) 414 a.toNatClampNeg 0).1 := hn104
      have hL106 : LK (sI (sI (sI (sI (sI (sI (sI (sI (sI h 405 a.toNatClampNeg b) 406 a.toNatClampNeg 0) 407 a.toNatClampNeg d) 408 a.toNatClampNeg e) 409 a.toNatClampNeg 0) 410 a.toNatClampNeg 0) 412 a.toNatClampNeg 0) 413 a.toNatClampNeg 0) 414 a.toNatClampNeg 0) := hL104
      refine e_ld (pc' := 100) i133_99 rfl rfl ?_
      refine e_get (w := .ref 415) (pc' := 103) i133_100 rfl (x_isC (by decide) hn106 sh397) (x_fvR (by decide +kernel) (hL106 397 19 415 lk397_19)) ?_
      refine e_ld (pc' := 104) i133_103 rfl rfl ?_
      refine e_cn (pc' := 105) i133_104 rfl ?_
      obtain ⟨g107, hP⟩ := hP
      refine e_as (n := a.toNatClampNeg) (h' := sI (sI (sI (sI (sI (sI (sI (sI (sI (sI h 405 a.toNatClampNeg b) 406 a.toNatClampNeg 0) 407 a.toNatClampNeg d) 408 a.toNatClampNeg e) 409 a.toNatClampNeg 0) 410 a.toNatClampNeg 0) 412 a.toNatClampNeg 0) 413 a.toNatClampNeg 0) 414 a.toNatClampNeg 0) 415 a.toNatClampNeg 0) (pc' := 106) i133_105 rfl (x_alX (a := 20) (by decide) hn106 sh415 (by decide) g107) rfl (by rw [show (SH 415).1 = 20 by rw [sh415]]; rfl) ?_
      have hn108 : 444 ≤ (sI (sI (sI (sI (sI (sI (sI (sI (sI (sI h 405 a.toNatClampNeg b) 406 a.toNatClampNeg 0) 407 a.toNatClampNeg d) 408 a.toNatClampNeg e) 409 a.toNatClampNeg 0) 410 a.toNatClampNeg 0) 412 a.toNatClampNeg 0) 413 a.toNatClampNeg 0) 414 a.toNatClampNeg 0) 415 a.toNatClampNeg 0).1 := hn106
      have hL108 : LK (sI (sI (sI (sI (sI (sI (sI (sI (sI (sI h 405 a.toNatClampNeg b) 406 a.toNatClampNeg 0) 407 a.toNatClampNeg d) 408 a.toNatClampNeg e) 409 a.toNatClampNeg 0) 410 a.toNatClampNeg 0) 412 a.toNatClampNeg 0) 413 a.toNatClampNeg 0) 414 a.toNatClampNeg 0) 415 a.toNatClampNeg 0) := hL106
      refine e_ld (pc' := 107) i133_106 rfl rfl ?_
      refine e_get (w := .ref 416) (pc' := 110) i133_107 rfl (x_isC (by decide) hn108 sh397) (x_fvR (by decide +kernel) (hL108 397 20 416 lk397_20)) ?_
      refine e_ld (pc' := 111) i133_110 rfl rfl ?_
      refine e_cn (pc' := 112) i133_111 rfl ?_
      obtain ⟨g109, hP⟩ := hP
      refine e_as (n := a.toNatClampNeg) (h' := sI (sI (sI (sI (sI (sI (sI (sI (sI (sI (sI h 405 a.toNatClampNeg b) 406 a.toNatClampNeg 0) 407 a.toNatClampNeg d) 408 a.toNatClampNeg e) 409 a.toNatClampNeg 0) 410 a.toNatClampNeg 0) 412 a.toNatClampNeg 0) 413 a.toNatClampNeg 0) 414 a.toNatClampNeg 0) 415 a.toNatClampNeg 0) 416 a.toNatClampNeg 0) (pc' := 113) i133_112 rfl (x_alX (a := 22) (by decide) hn108 sh416 (by decide) g109) rfl (by rw [show (SH 416).1 = 22 by rw [sh416]]; rfl) ?_
      have hn110 : 444 ≤ (sI (sI (sI (sI (sI (sI (sI (sI (sI (sI (sI h 405 a.toNatClampNeg b) 406 a.toNatClampNeg 0) 407 a.toNatClampNeg d) 408 a.toNatClampNeg e) 409 a.toNatClampNeg 0) 410 a.toNatClampNeg 0) 412 a.toNatClampNeg 0) 413 a.toNatClampNeg 0) 414 a.toNatClampNeg 0) 415 a.toNatClampNeg 0) 416 a.toNatClampNeg 0).1 := hn108
      have hL110 : LK (sI (sI (sI (sI (sI (sI (sI (sI (sI (sI (sI h 405 a.toNatClampNeg b) 406 a.toNatClampNeg 0) 407 a.toNatClampNeg d) 408 a.toNatClampNeg e) 409 a.toNatClampNeg 0) 410 a.toNatClampNeg 0) 412 a.toNatClampNeg 0) 413 a.toNatClampNeg 0) 414 a.toNatClampNeg 0) 415 a.toNatClampNeg 0) 416 a.toNatClampNeg 0) := hL108
      refine e_ld (pc' := 114) i133_113 rfl rfl ?_
      refine e_get (w := .ref 417) (pc' := 117) i133_114 rfl (x_isC (by decide) hn110 sh397) (x_fvR (by decide +kernel) (hL110 397 21 417 lk397_21)) ?_
      refine e_cn (pc' := 118) i133_117 rfl ?_
      refine e_ld (pc' := 119) i133_118 rfl rfl ?_
      refine e_ib (z := 2 * a) (pc' := 120) i133_119 rfl rfl ?_
      refine e_cn (pc' := 121) i133_120 rfl ?_
      obtain ⟨g111, hP⟩ := hP
      refine e_as (n := (2 * a).toNatClampNeg) (h' := sI (sI (sI (sI (sI (sI (sI (sI (sI (sI (sI (sI h 405 a.toNatClampNeg b) 406 a.toNatClampNeg 0) 407 a.toNatClampNeg d) 408 a.toNatClampNeg e) 409 a.toNatClampNeg 0) 410 a.toNatClampNeg 0) 412 a.toNatClampNeg 0) 413 a.toNatClampNeg 0) 414 a.toNatClampNeg 0) 415 a.toNatClampNeg 0) 416 a.toNatClampNeg 0) 417 ((2 * a).toNatClampNeg) 0) (pc' := 122) i133_121 rfl (x_alX (a := 20) (by decide) hn110 sh417 (by decide) g111) rfl (by rw [show (SH 417).1 = 20 by rw [sh417]]; rfl) ?_
      have hn112 : 444 ≤ (sI (sI (sI (sI (sI (sI (sI (sI (sI (sI (sI (sI h 405 a.toNatClampNeg b) 406 a.toNatClampNeg 0) 407 a.toNatClampNeg d) 408 a.toNatClampNeg e) 409 a.toNatClampNeg 0) 410 a.toNatClampNeg 0) 412 a.toNatClampNeg 0) 413 a.toNatClampNeg 0) 414 a.toNatClampNeg 0) 415 a.toNatClampNeg 0) 416 a.toNatClampNeg 0) 417 ((2 * a).toNatClampNeg) 0).1 := hn110
      have hL112 : LK (sI (sI (sI (sI (sI (sI (sI (sI (sI (sI (sI (sI h 405 a.toNatClampNeg b) 406 a.toNatClampNeg 0) 407 a.toNatClampNeg d) 408 a.toNatClampNeg e) 409 a.toNatClampNeg 0) 410 a.toNatClampNeg 0) 412 a.toNatClampNeg 0) 413 a.toNatClampNeg 0) 414 a.toNatClampNeg 0) 415 a.toNatClampNeg 0) 416 a.toNatClampNeg 0) 417 ((2 * a).toNatClampNeg) 0) := hL110
      refine e_ld (pc' := 123) i133_122 rfl rfl ?_
      refine e_get (w := .ref 417) (pc' := 126) i133_123 rfl (x_isC (by decide) hn112 sh397) (x_fvR (by decide +kernel) (hL112 397 21 417 lk397_21)) ?_
      refine e_cn (pc' := 127) i133_126 rfl ?_
      refine e_ld (pc' := 128) i133_127 rfl rfl ?_
      refine e_ib (z := 2 * a) (pc' := 129) i133_128 rfl rfl ?_
      refine e_cn (pc' := 130) i133_129 rfl ?_
      refine e_ib (z := (2 * a) + 1) (pc' := 131) i133_130 rfl rfl ?_
      refine e_cn (pc' := 132) i133_131 rfl ?_
      obtain ⟨g113, hP⟩ := hP
      refine e_as (n := ((2 * a) + 1).toNatClampNeg) (h' := sI (sI (sI (sI (sI (sI (sI (sI (sI (sI (sI (sI (sI h 405 a.toNatClampNeg b) 406 a.toNatClampNeg 0) 407 a.toNatClampNeg d) 408 a.toNatClampNeg e) 409 a.toNatClampNeg 0) 410 a.toNatClampNeg 0) 412 a.toNatClampNeg 0) 413 a.toNatClampNeg 0) 414 a.toNatClampNeg 0) 415 a.toNatClampNeg 0) 416 a.toNatClampNeg 0) 417 ((2 * a).toNatClampNeg) 0) 417 (((2 * a) + 1).toNatClampNeg) 0) (pc' := 133) i133_132 rfl (x_alX (a := 20) (by decide) hn112 sh417 (by decide) g113) rfl (by rw [show (SH 417).1 = 20 by rw [sh417]]; rfl) ?_
      have hn114 : 444 ≤ (sI (sI (sI (sI (sI (sI (sI (sI (sI (sI (sI (sI (sI h 405 a.toNatClampNeg b) 406 a.toNatClampNeg 0) 407 a.toNatClampNeg d) 408 a.toNatClampNeg e) 409 a.toNatClampNeg 0) 410 a.toNatClampNeg 0) 412 a.toNatClampNeg 0) 413 a.toNatClampNeg 0) 414 a.toNatClampNeg 0) 415 a.toNatClampNeg 0) 416 a.toNatClampNeg 0) 417 ((2 * a).toNatClampNeg) 0) 417 (((2 * a) + 1).toNatClampNeg) 0).1 := hn112
      have hL114 : LK (sI (sI (sI (sI (sI (sI (sI (sI (sI (sI (sI (sI (sI h 405 a.toNatClampNeg b) 406 a.toNatClampNeg 0) 407 a.toNatClampNeg d) 408 a.toNatClampNeg e) 409 a.toNatClampNeg 0) 410 a.toNatClampNeg 0) 412 a.toNatClampNeg 0) 413 a.toNatClampNeg 0) 414 a.toNatClampNeg 0) 415 a.toNatClampNeg 0) 416 a.toNatClampNeg 0) 417 ((2 * a).toNatClampNeg) 0) 417 (((2 * a) + 1).toNatClampNeg) 0) := hL112
      refine e_ld (pc' := 134) i133_133 rfl rfl ?_
      refine e_get (w := .ref 418) (pc' := 137) i133_134 rfl (x_isC (by decide) hn114 sh397) (x_fvR (by decide +kernel) (hL114 397 22 418 lk397_22)) ?_
      refine e_ld (pc' := 138) i133_137 rfl rfl ?_
      refine e_cn (pc' := 139) i133_138 rfl ?_
      obtain ⟨g115, hP⟩ := hP
      refine e_as (n := a.toNatClampNeg) (h' := sI (sI (sI (sI (sI (sI (sI (sI (sI (sI (sI (sI (sI (sI h 405 a.toNatClampNeg b) 406 a.toNatClampNeg 0) 407 a.toNatClampNeg d) 408 a.toNatClampNeg e) 409 a.toNatClampNeg 0) 410 a.toNatClampNeg 0) 412 a.toNatClampNeg 0) 413 a.toNatClampNeg 0) 414 a.toNatClampNeg 0) 415 a.toNatClampNeg 0) 416 a.toNatClampNeg 0) 417 ((2 * a).toNatClampNeg) 0) 417 (((2 * a) + 1).toNatClampNeg) 0) 418 a.toNatClampNeg 3) (pc' := 140) i133_139 rfl (x_alX (a := 20) (by decide) hn114 sh418 (by decide) g115) rfl (by rw [show (SH 418).1 = 20 by rw [sh418]]; rfl) ?_
      have hn116 : 444 ≤ (sI (sI (sI (sI (sI (sI (sI (sI (sI (sI (sI (sI (sI (sI h 405 a.toNatClampNeg b) 406 a.toNatClampNeg 0) 407 a.toNatClampNeg d) 408 a.toNatClampNeg e) 409 a.toNatClampNeg 0) 410 a.toNatClampNeg 0) 412 a.toNatClampNeg 0) 413 a.toNatClampNeg 0) 414 a.toNatClampNeg 0) 415 a.toNatClampNeg 0) 416 a.toNatClampNeg 0) 417 ((2 * a).toNatClampNeg) 0) 417 (((2 * a) + 1).toNatClampNeg) 0) 418 a.toNatClampNeg 3).1 := hn114
      have hL116 : LK (sI (sI (sI (sI (sI (sI (sI (sI (sI (sI (sI (sI (sI (sI h 405 a.toNatClampNeg b) 406 a.toNatClampNeg 0) 407 a.toNatClampNeg d) 408 a.toNatClampNeg e) 409 a.toNatClampNeg 0) 410 a.toNatClampNeg 0) 412 a.toNatClampNeg 0) 413 a.toNatClampNeg 0) 414 a.toNatClampNeg 0) 415 a.toNatClampNeg 0) 416 a.toNatClampNeg 0) 417 ((2 * a).toNatClampNeg) 0) 417 (((2 * a) + 1).toNatClampNeg) 0) 418 a.toNatClampNeg 3) := hL114
      refine e_ld (pc' := 141) i133_140 rfl rfl ?_
      refine e_get (w := .ref 419) (pc' := 144) i133_141 rfl (x_isC (by decide) hn116 sh397) (x_fvR (by decide +kernel) (hL116 397 23 419 lk397_23)) ?_
      refine e_ld (pc' := 145) i133_144 rfl rfl ?_
      refine e_cn (pc' := 146) i133_145 rfl ?_
      obtain ⟨g117, hP⟩ := hP
      refine e_as (n := a.toNatClampNeg) (h' := sI (sI (sI (sI (sI (sI (sI (sI (sI (sI (sI (sI (sI (sI (sI h 405 a.toNatClampNeg b) 406 a.toNatClampNeg 0) 407 a.toNatClampNeg d) 408 a.toNatClampNeg e) 409 a.toNatClampNeg 0) 410 a.toNatClampNeg 0) 412 a.toNatClampNeg 0) 413 a.toNatClampNeg 0) 414 a.toNatClampNeg 0) 415 a.toNatClampNeg 0) 416 a.toNatClampNeg 0) 417 ((2 * a).toNatClampNeg) 0) 417 (((2 * a) + 1).toNatClampNeg) 0) 418 a.toNatClampNeg 3) 419 a.toNatClampNeg 3) (pc' := 147) i133_146 rfl (x_alX (a := 20) (by decide) hn116 sh419 (by decide) g117) rfl (by rw [show (SH 419).1 = 20 by rw [sh419]]; rfl) ?_
      have hn118 : 444 ≤ (sI (sI (sI (sI (sI (sI (sI (sI (sI (sI (sI (sI (sI (sI (sI h 405 a.toNatClampNeg b) 406 a.toNatClampNeg 0) 407 a.toNatClampNeg d) 408 a.toNatClampNeg e) 409 a.toNatClampNeg 0) 410 a.toNatClampNeg 0) 412 a.toNatClampNeg 0) 413 a.toNatClampNeg 0) 414 a.toNatClampNeg 0) 415 a.toNatClampNeg 0) 416 a.toNatClampNeg 0) 417 ((2 * a).toNatClampNeg) 0) 417 (((2 * a) + 1).toNatClampNeg) 0) 418 a.toNatClampNeg 3) 419 a.toNatClampNeg 3).1 := hn116
      have hL118 : LK (sI (sI (sI (sI (sI (sI (sI (sI (sI (sI (sI (sI (sI (sI (sI h 405 a.toNatClampNeg b) 406 a.toNatClampNeg 0) 407 a.toNatClampNeg d) 408 a.toNatClampNeg e) 409 a.toNatClampNeg 0) 410 a.toNatClampNeg 0) 412 a.toNatClampNeg 0) 413 a.toNatClampNeg 0) 414 a.toNatClampNeg 0) 415 a.toNatClampNeg 0) 416 a.toNatClampNeg 0) 417 ((2 * a).toNatClampNeg) 0) 417 (((2 * a) + 1).toNatClampNeg) 0) 418 a.toNatClampNeg 3) 419 a.toNatClampNeg 3) := hL116
      refine e_rt i133_147 rfl ?_
      exact ⟨rfl, by unfold G133; simp only [if_pos (show b = 7 from (Decidable.not_not.mp (of_decide_eq_false c3))), if_pos (show b = 5 from (of_decide_eq_true c91))]⟩
    · replace hP := hP.2 (of_decide_eq_false c91)
      refine e_ld (pc' := 35) i133_34 rfl rfl ?_
      refine e_cn (pc' := 37) i133_35 rfl ?_
      refine e_ic (pc' := 40) i133_37 rfl (fun c119 => ?_) (fun c119 => ?_)
      · replace hP := hP.2 (of_decide_eq_true c119)
        refine e_cn (pc' := 46) i133_45 rfl ?_
        obtain ⟨g120, hP⟩ := hP
        refine e_as (n := a.toNatClampNeg) (h' := sI (sI (sI h 405 a.toNatClampNeg b) 406 a.toNatClampNeg 0) 407 a.toNatClampNeg 0) (pc' := 47) i133_46 rfl (x_alX (a := 20) (by decide) hn90 sh407 (by decide) g120) rfl (by rw [show (SH 407).1 = 20 by rw [sh407]]; rfl) ?_
        have hn121 : 444 ≤ (sI (sI (sI h 405 a.toNatClampNeg b) 406 a.toNatClampNeg 0) 407 a.toNatClampNeg 0).1 := hn90
        have hL121 : LK (sI (sI (sI h 405 a.toNatClampNeg b) 406 a.toNatClampNeg 0) 407 a.toNatClampNeg 0) := hL90
        refine e_ld (pc' := 48) i133_47 rfl rfl ?_
        refine e_get (w := .ref 408) (pc' := 51) i133_48 rfl (x_isC (by decide) hn121 sh397) (x_fvR (by decide +kernel) (hL121 397 11 408 lk397_11)) ?_
        refine e_ld (pc' := 52) i133_51 rfl rfl ?_
        refine e_ld (pc' := 53) i133_52 rfl rfl ?_
        refine e_cn (pc' := 54) i133_53 rfl ?_
        refine e_icT i133_54 (decide_eq_true (of_decide_eq_false c91)) ?_
        refine e_cn (pc' := 63) i133_62 rfl ?_
        obtain ⟨g123, hP⟩ := hP
        refine e_as (n := a.toNatClampNeg) (h' := sI (sI (sI (sI h 405 a.toNatClampNeg b) 406 a.toNatClampNeg 0) 407 a.toNatClampNeg 0) 408 a.toNatClampNeg 0) (pc' := 64) i133_63 rfl (x_alX (a := 20) (by decide) hn121 sh408 (by decide) g123) rfl (by rw [show (SH 408).1 = 20 by rw [sh408]]; rfl) ?_
        have hn124 : 444 ≤ (sI (sI (sI (sI h 405 a.toNatClampNeg b) 406 a.toNatClampNeg 0) 407 a.toNatClampNeg 0) 408 a.toNatClampNeg 0).1 := hn121
        have hL124 : LK (sI (sI (sI (sI h 405 a.toNatClampNeg b) 406 a.toNatClampNeg 0) 407 a.toNatClampNeg 0) 408 a.toNatClampNeg 0) := hL121
        refine e_ld (pc' := 65) i133_64 rfl rfl ?_
        refine e_get (w := .ref 409) (pc' := 68) i133_65 rfl (x_isC (by decide) hn124 sh397) (x_fvR (by decide +kernel) (hL124 397 12 409 lk397_12)) ?_
        refine e_ld (pc' := 69) i133_68 rfl rfl ?_
        refine e_cn (pc' := 70) i133_69 rfl ?_
        obtain ⟨g125, hP⟩ := hP
        refine e_as (n := a.toNatClampNeg) (h' := sI (sI (sI (sI (sI h 405 a.toNatClampNeg b) 406 a.toNatClampNeg 0) 407 a.toNatClampNeg 0) 408 a.toNatClampNeg 0) 409 a.toNatClampNeg 0) (pc' := 71) i133_70 rfl (x_alX (a := 20) (by decide) hn124 sh409 (by decide) g125) rfl (by rw [show (SH 409).1 = 20 by rw [sh409]]; rfl) ?_
        have hn126 : 444 ≤ (sI (sI (sI (sI (sI h 405 a.toNatClampNeg b) 406 a.toNatClampNeg 0) 407 a.toNatClampNeg 0) 408 a.toNatClampNeg 0) 409 a.toNatClampNeg 0).1 := hn124
        have hL126 : LK (sI (sI (sI (sI (sI h 405 a.toNatClampNeg b) 406 a.toNatClampNeg 0) 407 a.toNatClampNeg 0) 408 a.toNatClampNeg 0) 409 a.toNatClampNeg 0) := hL124
        refine e_ld (pc' := 72) i133_71 rfl rfl ?_
        refine e_get (w := .ref 410) (pc' := 75) i133_72 rfl (x_isC (by decide) hn126 sh397) (x_fvR (by decide +kernel) (hL126 397 13 410 lk397_13)) ?_
        refine e_ld (pc' := 76) i133_75 rfl rfl ?_
        refine e_cn (pc' := 77) i133_76 rfl ?_
        obtain ⟨g127, hP⟩ := hP
        refine e_as (n := a.toNatClampNeg) (h' := sI (sI (sI (sI (sI (sI h 405 a.toNatClampNeg b) 406 a.toNatClampNeg 0) 407 a.toNatClampNeg 0) 408 a.toNatClampNeg 0) 409 a.toNatClampNeg 0) 410 a.toNatClampNeg 0) (pc' := 78) i133_77 rfl (x_alX (a := 20) (by decide) hn126 sh410 (by decide) g127) rfl (by rw [show (SH 410).1 = 20 by rw [sh410]]; rfl) ?_
        have hn128 : 444 ≤ (sI (sI (sI (sI (sI (sI h 405 a.toNatClampNeg b) 406 a.toNatClampNeg 0) 407 a.toNatClampNeg 0) 408 a.toNatClampNeg 0) 409 a.toNatClampNeg 0) 410 a.toNatClampNeg 0).1 := hn126
        have hL128 : LK (sI (sI (sI (sI (sI (sI h 405 a.toNatClampNeg b) 406 a.toNatClampNeg 0) 407 a.toNatClampNeg 0) 408 a.toNatClampNeg 0) 409 a.toNatClampNeg 0) 410 a.toNatClampNeg 0) := hL126
        refine e_ld (pc' := 79) i133_78 rfl rfl ?_
        refine e_get (w := .ref 412) (pc' := 82) i133_79 rfl (x_isC (by decide) hn128 sh397) (x_fvR (by decide +kernel) (hL128 397 16 412 lk397_16)) ?_
        refine e_ld (pc' := 83) i133_82 rfl rfl ?_
        refine e_cn (pc' := 84) i133_83 rfl ?_
        obtain ⟨g129, hP⟩ := hP
        refine e_as (n := a.toNatClampNeg) (h' := sI (sI (sI (sI (sI (sI (sI h 405 a.toNatClampNeg b) 406 a.toNatClampNeg 0) 407 a.toNatClampNeg 0) 408 a.toNatClampNeg 0) 409 a.toNatClampNeg 0) 410 a.toNatClampNeg 0) 412 a.toNatClampNeg 0) (pc' := 85) i133_84 rfl (x_alX (a := 20) (by decide) hn128 sh412 (by decide) g129) rfl (by rw [show (SH 412).1 = 20 by rw [sh412]]; rfl) ?_
        have hn130 : 444 ≤ (sI (sI (sI (sI (sI (sI (sI h 405 a.toNatClampNeg b) 406 a.toNatClampNeg 0) 407 a.toNatClampNeg 0) 408 a.toNatClampNeg 0) 409 a.toNatClampNeg 0) 410 a.toNatClampNeg 0) 412 a.toNatClampNeg 0).1 := hn128
        have hL130 : LK (sI (sI (sI (sI (sI (sI (sI h 405 a.toNatClampNeg b) 406 a.toNatClampNeg 0) 407 a.toNatClampNeg 0) 408 a.toNatClampNeg 0) 409 a.toNatClampNeg 0) 410 a.toNatClampNeg 0) 412 a.toNatClampNeg 0) := hL128
        refine e_ld (pc' := 86) i133_85 rfl rfl ?_
        refine e_get (w := .ref 413) (pc' := 89) i133_86 rfl (x_isC (by decide) hn130 sh397) (x_fvR (by decide +kernel) (hL130 397 17 413 lk397_17)) ?_
        refine e_ld (pc' := 90) i133_89 rfl rfl ?_
        refine e_cn (pc' := 91) i133_90 rfl ?_
        obtain ⟨g131, hP⟩ := hP
        refine e_as (n := a.toNatClampNeg) (h' := sI (sI (sI (sI (sI (sI (sI (sI h 405 a.toNatClampNeg b) 406 a.toNatClampNeg 0) 407 a.toNatClampNeg 0) 408 a.toNatClampNeg 0) 409 a.toNatClampNeg 0) 410 a.toNatClampNeg 0) 412 a.toNatClampNeg 0) 413 a.toNatClampNeg 0) (pc' := 92) i133_91 rfl (x_alX (a := 20) (by decide) hn130 sh413 (by decide) g131) rfl (by rw [show (SH 413).1 = 20 by rw [sh413]]; rfl) ?_
        have hn132 : 444 ≤ (sI (sI (sI (sI (sI (sI (sI (sI h 405 a.toNatClampNeg b) 406 a.toNatClampNeg 0) 407 a.toNatClampNeg 0) 408 a.toNatClampNeg 0) 409 a.toNatClampNeg 0) 410 a.toNatClampNeg 0) 412 a.toNatClampNeg 0) 413 a.toNatClampNeg 0).1 := hn130
        have hL132 : LK (sI (sI (sI (sI (sI (sI (sI (sI h 405 a.toNatClampNeg b) 406 a.toNatClampNeg 0) 407 a.toNatClampNeg 0) 408 a.toNatClampNeg 0) 409 a.toNatClampNeg 0) 410 a.toNatClampNeg 0) 412 a.toNatClampNeg 0) 413 a.toNatClampNeg 0) := hL130
        refine e_ld (pc' := 93) i133_92 rfl rfl ?_
        refine e_get (w := .ref 414) (pc' := 96) i133_93 rfl (x_isC (by decide) hn132 sh397) (x_fvR (by decide +kernel) (hL132 397 18 414 lk397_18)) ?_
        refine e_ld (pc' := 97) i133_96 rfl rfl ?_
        refine e_cn (pc' := 98) i133_97 rfl ?_
        obtain ⟨g133, hP⟩ := hP
        refine e_as (n := a.toNatClampNeg) (h' := sI (sI (sI (sI (sI (sI (sI (sI (sI h 405 a.toNatClampNeg b) 406 a.toNatClampNeg 0) 407 a.toNatClampNeg 0) 408 a.toNatClampNeg 0) 409 a.toNatClampNeg 0) 410 a.toNatClampNeg 0) 412 a.toNatClampNeg 0) 413 a.toNatClampNeg 0) 414 a.toNatClampNeg 0) (pc' := 99) i133_98 rfl (x_alX (a := 20) (by decide) hn132 sh414 (by decide) g133) rfl (by rw [show (SH 414).1 = 20 by rw [sh414]]; rfl) ?_
        have hn134 : 444 ≤ (sI (sI (sI (sI (sI (sI (sI (sI (sI h 405 a.toNatClampNeg b) 406 a.toNatClampNeg 0) 407 a.toNatClampNeg 0) 408 a.toNatClampNeg 0) 409 a.toNatClampNeg 0) 410 a.toNatClampNeg 0) 412 a.toNatClampNeg 0) 413 a.toNatClampNeg 0) 414 a.toNatClampNeg 0).1 := hn132
        have hL134 : LK (sI (sI (sI (sI (sI (sI (sI (sI (sI h 405 a.toNatClampNeg b) 406 a.toNatClampNeg 0) 407 a.toNatClampNeg 0) 408 a.toNatClampNeg 0) 409 a.toNatClampNeg 0) 410 a.toNatClampNeg 0) 412 a.toNatClampNeg 0) 413 a.toNatClampNeg 0) 414 a.toNatClampNeg 0) := hL132
        refine e_ld (pc' := 100) i133_99 rfl rfl ?_
        refine e_get (w := .ref 415) (pc' := 103) i133_100 rfl (x_isC (by decide) hn134 sh397) (x_fvR (by decide +kernel) (hL134 397 19 415 lk397_19)) ?_
        refine e_ld (pc' := 104) i133_103 rfl rfl ?_
        refine e_cn (pc' := 105) i133_104 rfl ?_
        obtain ⟨g135, hP⟩ := hP
        refine e_as (n := a.toNatClampNeg) (h' := sI (sI (sI (sI (sI (sI (sI (sI (sI (sI h 405 a.toNatClampNeg b) 406 a.toNatClampNeg 0) 407 a.toNatClampNeg 0) 408 a.toNatClampNeg 0) 409 a.toNatClampNeg 0) 410 a.toNatClampNeg 0) 412 a.toNatClampNeg 0) 413 a.toNatClampNeg 0) 414 a.toNatClampNeg 0) 415 a.toNatClampNeg 0) (pc' := 106) i133_105 rfl (x_alX (a := 20) (by decide) hn134 sh415 (by decide) g135) rfl (by rw [show (SH 415).1 = 20 by rw [sh415]]; rfl) ?_
        have hn136 : 444 ≤ (sI (sI (sI (sI (sI (sI (sI (sI (sI (sI h 405 a.toNatClampNeg b) 406 a.toNatClampNeg 0) 407 a.toNatClampNeg 0) 408 a.toNatClampNeg 0) 409 a.toNatClampNeg 0) 410 a.toNatClampNeg 0) 412 a.toNatClampNeg 0) 413 a.toNatClampNeg 0) 414 a.toNatClampNeg 0) 415 a.toNatClampNeg 0).1 := hn134
        have hL136 : LK (sI (sI (sI (sI (sI (sI (sI (sI (sI (sI h 405 a.toNatClampNeg b) 406 a.toNatClampNeg 0) 407 a.toNatClampNeg 0) 408 a.toNatClampNeg 0) 409 a.toNatClampNeg 0) 410 a.toNatClampNeg 0) 412 a.toNatClampNeg 0) 413 a.toNatClampNeg 0) 414 a.toNatClampNeg 0) 415 a.toNatClampNeg 0) := hL134
        refine e_ld (pc' := 107) i133_106 rfl rfl ?_
        refine e_get (w := .ref 416) (pc' := 110) i133_107 rfl (x_isC (by decide) hn136 sh397) (x_fvR (by decide +kernel) (hL136 397 20 416 lk397_20)) ?_
        refine e_ld (pc' := 111) i133_110 rfl rfl ?_
        refine e_cn (pc' := 112) i133_111 rfl ?_
        obtain ⟨g137, hP⟩ := hP
        refine e_as (n := a.toNatClampNeg) (h' := sI (sI (sI (sI (sI (sI (sI (sI (sI (sI (sI h 405 a.toNatClampNeg b) 406 a.toNatClampNeg 0) 407 a.toNatClampNeg 0) 408 a.toNatClampNeg 0) 409 a.toNatClampNeg 0) 410 a.toNatClampNeg 0) 412 a.toNatClampNeg 0) 413 a.toNatClampNeg 0) 414 a.toNatClampNeg 0) 415 a.toNatClampNeg 0) 416 a.toNatClampNeg 0) (pc' := 113) i133_112 rfl (x_alX (a := 22) (by decide) hn136 sh416 (by decide) g137) rfl (by rw [show (SH 416).1 = 22 by rw [sh416]]; rfl) ?_
        have hn138 : 444 ≤ (sI (sI (sI (sI (sI (sI (sI (sI (sI (sI (sI h 405 a.toNatClampNeg b) 406 a.toNatClampNeg 0) 407 a.toNatClampNeg 0) 408 a.toNatClampNeg 0) 409 a.toNatClampNeg 0) 410 a.toNatClampNeg 0) 412 a.toNatClampNeg 0) 413 a.toNatClampNeg 0) 414 a.toNatClampNeg 0) 415 a.toNatClampNeg 0) 416 a.toNatClampNeg 0).1 := hn136
        have hL138 : LK (sI (sI (sI (sI (sI (sI (sI (sI (sI (sI (sI h 405 a.toNatClampNeg b) 406 a.toNatClampNeg 0) 407 a.toNatClampNeg 0) 408 a.toNatClampNeg 0) 409 a.toNatClampNeg 0) 410 a.toNatClampNeg 0) 412 a.toNatClampNeg 0) 413 a.toNatClampNeg 0) 414 a.toNatClampNeg 0) 415 a.toNatClampNeg 0) 416 a.toNatClampNeg 0) := hL136
        refine e_ld (pc' := 114) i133_113 rfl rfl ?_
        refine e_get (w := .ref 417) (pc' := 117) i133_114 rfl (x_isC (by decide) hn138 sh397) (x_fvR (by decide +kernel) (hL138 397 21 417 lk397_21)) ?_
        refine e_cn (pc' := 118) i133_117 rfl ?_
        refine e_ld (pc' := 119) i133_118 rfl rfl ?_
        refine e_ib (z := 2 * a) (pc' := 120) i133_119 rfl rfl ?_
        refine e_cn (pc' := 121) i133_120 rfl ?_
        obtain ⟨g139, hP⟩ := hP
        refine e_as (n := (2 * a).toNatClampNeg) (h' := sI (sI (sI (sI (sI (sI (sI (sI (sI (sI (sI (sI h 405 a.toNatClampNeg b) 406 a.toNatClampNeg 0) 407 a.toNatClampNeg 0) 408 a.toNatClampNeg 0) 409 a.toNatClampNeg 0) 410 a.toNatClampNeg 0) 412 a.toNatClampNeg 0) 413 a.toNatClampNeg 0) 414 a.toNatClampNeg 0) 415 a.toNatClampNeg 0) 416 a.toNatClampNeg 0) 417 ((2 * a).toNatClampNeg) 0) (pc' := 122) i133_121 rfl (x_alX (a := 20) (by decide) hn138 sh417 (by decide) g139) rfl (by rw [show (SH 417).1 = 20 by rw [sh417]]; rfl) ?_
        have hn140 : 444 ≤ (sI (sI (sI (sI (sI (sI (sI (sI (sI (sI (sI (sI h 405 a.toNatClampNeg b) 406 a.toNatClampNeg 0) 407 a.toNatClampNeg 0) 408 a.toNatClampNeg 0) 409 a.toNatClampNeg 0) 410 a.toNatClampNeg 0) 412 a.toNatClampNeg 0) 413 a.toNatClampNeg 0) 414 a.toNatClampNeg 0) 415 a.toNatClampNeg 0) 416 a.toNatClampNeg 0) 417 ((2 * a).toNatClampNeg) 0).1 := hn138
        have hL140 : LK (sI (sI (sI (sI (sI (sI (sI (sI (sI (sI (sI (sI h 405 a.toNatClampNeg b) 406 a.toNatClampNeg 0) 407 a.toNatClampNeg 0) 408 a.toNatClampNeg 0) 409 a.toNatClampNeg 0) 410 a.toNatClampNeg 0) 412 a.toNatClampNeg 0) 413 a.toNatClampNeg 0) 414 a.toNatClampNeg 0) 415 a.toNatClampNeg 0) 416 a.toNatClampNeg 0) 417 ((2 * a).toNatClampNeg) 0) := hL138
        refine e_ld (pc' := 123) i133_122 rfl rfl ?_
        refine e_get (w := .ref 417) (pc' := 126) i133_123 rfl (x_isC (by decide) hn140 sh397) (x_fvR (by decide +kernel) (hL140 397 21 417 lk397_21)) ?_
        refine e_cn (pc' := 127) i133_126 rfl ?_
        refine e_ld (pc' := 128) i133_127 rfl rfl ?_
        refine e_ib (z := 2 * a) (pc' := 129) i133_128 rfl rfl ?_
        refine e_cn (pc' := 130) i133_129 rfl ?_
        refine e_ib (z := (2 * a) + 1) (pc' := 131) i133_130 rfl rfl ?_
        refine e_cn (pc' := 132) i133_131 rfl ?_
        obtain ⟨g141, hP⟩ := hP
        refine e_as (n := ((2 * a) + 1).toNatClampNeg) (h' := sI (sI (sI (sI (sI (sI (sI (sI (sI (sI (sI (sI (sI h 405 a.toNatClampNeg b) 406 a.toNatClampNeg 0) 407 a.toNatClampNeg 0) 408 a.toNatClampNeg 0) 409 a.toNatClampNeg 0) 410 a.toNatClampNeg 0) 412 a.toNatClampNeg 0) 413 a.toNatClampNeg 0) 414 a.toNatClampNeg 0) 415 a.toNatClampNeg 0) 416 a.toNatClampNeg 0) 417 ((2 * a).toNatClampNeg) 0) 417 (((2 * a) + 1).toNatClampNeg) 0) (pc' := 133) i133_132 rfl (x_alX (a := 20) (by decide) hn140 sh417 (by decide) g141) rfl (by rw [show (SH 417).1 = 20 by rw [sh417]]; rfl) ?_
        have hn142 : 444 ≤ (sI (sI (sI (sI (sI (sI (sI (sI (sI (sI (sI (sI (sI h 405 a.toNatClampNeg b) 406 a.toNatClampNeg 0) 407 a.toNatClampNeg 0) 408 a.toNatClampNeg 0) 409 a.toNatClampNeg 0) 410 a.toNatClampNeg 0) 412 a.toNatClampNeg 0) 413 a.toNatClampNeg 0) 414 a.toNatClampNeg 0) 415 a.toNatClampNeg 0) 416 a.toNatClampNeg 0) 417 ((2 * a).toNatClampNeg) 0) 417 (((2 * a) + 1).toNatClampNeg) 0).1 := hn140
        have hL142 : LK (sI (sI (sI (sI (sI (sI (sI (sI (sI (sI (sI (sI (sI h 405 a.toNatClampNeg b) 406 a.toNatClampNeg 0) 407 a.toNatClampNeg 0) 408 a.toNatClampNeg 0) 409 a.toNatClampNeg 0) 410 a.toNatClampNeg 0) 412 a.toNatClampNeg 0) 413 a.toNatClampNeg 0) 414 a.toNatClampNeg 0) 415 a.toNatClampNeg 0) 416 a.toNatClampNeg 0) 417 ((2 * a).toNatClampNeg) 0) 417 (((2 * a) + 1).toNatClampNeg) 0) := hL140
        refine e_ld (pc' := 134) i133_133 rfl rfl ?_
        refine e_get (w := .ref 418) (pc' := 137) i133_134 rfl (x_isC (by decide) hn142 sh397) (x_fvR (by decide +kernel) (hL142 397 22 418 lk397_22)) ?_
        refine e_ld (pc' := 138) i133_137 rfl rfl ?_
        refine e_cn (pc' := 139) i133_138 rfl ?_
        obtain ⟨g143, hP⟩ := hP
        refine e_as (n := a.toNatClampNeg) (h' := sI (sI (sI (sI (sI (sI (sI (sI (sI (sI (sI (sI (sI (sI h 405 a.toNatClampNeg b) 406 a.toNatClampNeg 0) 407 a.toNatClampNeg 0) 408 a.toNatClampNeg 0) 409 a.toNatClampNeg 0) 410 a.toNatClampNeg 0) 412 a.toNatClampNeg 0) 413 a.toNatClampNeg 0) 414 a.toNatClampNeg 0) 415 a.toNatClampNeg 0) 416 a.toNatClampNeg 0) 417 ((2 * a).toNatClampNeg) 0) 417 (((2 * a) + 1).toNatClampNeg) 0) 418 a.toNatClampNeg 3) (pc' := 140) i133_139 rfl (x_alX (a := 20) (by decide) hn142 sh418 (by decide) g143) rfl (by rw [show (SH 418).1 = 20 by rw [sh418]]; rfl) ?_
        have hn144 : 444 ≤ (sI (sI (sI (sI (sI (sI (sI (sI (sI (sI (sI (sI (sI (sI h 405 a.toNatClampNeg b) 406 a.toNatClampNeg 0) 407 a.toNatClampNeg 0) 408 a.toNatClampNeg 0) 409 a.toNatClampNeg 0) 410 a.toNatClampNeg 0) 412 a.toNatClampNeg 0) 413 a.toNatClampNeg 0) 414 a.toNatClampNeg 0) 415 a.toNatClampNeg 0) 416 a.toNatClampNeg 0) 417 ((2 * a).toNatClampNeg) 0) 417 (((2 * a) + 1).toNatClampNeg) 0) 418 a.toNatClampNeg 3).1 := hn142
        have hL144 : LK (sI (sI (sI (sI (sI (sI (sI (sI (sI (sI (sI (sI (sI (sI h 405 a.toNatClampNeg b) 406 a.toNatClampNeg 0) 407 a.toNatClampNeg 0) 408 a.toNatClampNeg 0) 409 a.toNatClampNeg 0) 410 a.toNatClampNeg 0) 412 a.toNatClampNeg 0) 413 a.toNatClampNeg 0) 414 a.toNatClampNeg 0) 415 a.toNatClampNeg 0) 416 a.toNatClampNeg 0) 417 ((2 * a).toNatClampNeg) 0) 417 (((2 * a) + 1).toNatClampNeg) 0) 418 a.toNatClampNeg 3) := hL142
        refine e_ld (pc' := 141) i133_140 rfl rfl ?_
        refine e_get (w := .ref 419) (pc' := 144) i133_141 rfl (x_isC (by decide) hn144 sh397) (x_fvR (by decide +kernel) (hL144 397 23 419 lk397_23)) ?_
        refine e_ld (pc' := 145) i133_144 rfl rfl ?_
        refine e_cn (pc' := 146) i133_145 rfl ?_
        obtain ⟨g145, hP⟩ := hP
        refine e_as (n := a.toNatClampNeg) (h' := sI (sI (sI (sI (sI (sI (sI (sI (sI (sI (sI (sI (sI (sI (sI h 405 a.toNatClampNeg b) 406 a.toNatClampNeg 0) 407 a.toNatClampNeg 0) 408 a.toNatClampNeg 0) 409 a.toNatClampNeg 0) 410 a.toNatClampNeg 0) 412 a.toNatClampNeg 0) 413 a.toNatClampNeg 0) 414 a.toNatClampNeg 0) 415 a.toNatClampNeg 0) 416 a.toNatClampNeg 0) 417 ((2 * a).toNatClampNeg) 0) 417 (((2 * a) + 1).toNatClampNeg) 0) 418 a.toNatClampNeg 3) 419 a.toNatClampNeg 3) (pc' := 147) i133_146 rfl (x_alX (a := 20) (by decide) hn144 sh419 (by decide) g145) rfl (by rw [show (SH 419).1 = 20 by rw [sh419]]; rfl) ?_
        have hn146 : 444 ≤ (sI (sI (sI (sI (sI (sI (sI (sI (sI (sI (sI (sI (sI (sI (sI h 405 a.toNatClampNeg b) 406 a.toNatClampNeg 0) 407 a.toNatClampNeg 0) 408 a.toNatClampNeg 0) 409 a.toNatClampNeg 0) 410 a.toNatClampNeg 0) 412 a.toNatClampNeg 0) 413 a.toNatClampNeg 0) 414 a.toNatClampNeg 0) 415 a.toNatClampNeg 0) 416 a.toNatClampNeg 0) 417 ((2 * a).toNatClampNeg) 0) 417 (((2 * a) + 1).toNatClampNeg) 0) 418 a.toNatClampNeg 3) 419 a.toNatClampNeg 3).1 := hn144
        have hL146 : LK (sI (sI (sI (sI (sI (sI (sI (sI (sI (sI (sI (sI (sI (sI (sI h 405 a.toNatClampNeg b) 406 a.toNatClampNeg 0) 407 a.toNatClampNeg 0) 408 a.toNatClampNeg 0) 409 a.toNatClampNeg 0) 410 a.toNatClampNeg 0) 412 a.toNatClampNeg 0) 413 a.toNatClampNeg 0) 414 a.toNatClampNeg 0) 415 a.toNatClampNeg 0) 416 a.toNatClampNeg 0) 417 ((2 * a).toNatClampNeg) 0) 417 (((2 * a) + 1).toNatClampNeg) 0) 418 a.toNatClampNeg 3) 419 a.toNatClampNeg 3) := hL144
        refine e_rt i133_147 rfl ?_
        exact ⟨rfl, by unfold G133; simp only [if_pos (show b = 7 from (Decidable.not_not.mp (of_decide_eq_false c3))), if_neg (show ¬ (b = 5) from (of_decide_eq_false c91)), if_neg (show ¬ (b = 6) from (of_decide_eq_true c119))]⟩
      · replace hP := hP.1 (Decidable.not_not.mp (of_decide_eq_false c119))
        refine e_ld (pc' := 42) i133_40 rfl rfl ?_
        refine e_go i133_42 ?_
        obtain ⟨g147, hP⟩ := hP
        refine e_as (n := a.toNatClampNeg) (h' := sI (sI (sI h 405 a.toNatClampNeg b) 406 a.toNatClampNeg 0) 407 a.toNatClampNeg d) (pc' := 47) i133_46 rfl (x_alX (a := 20) (by decide) hn90 sh407 (by decide) g147) rfl (by rw [show (SH 407).1 = 20 by rw [sh407]]; rfl) ?_
        have hn148 : 444 ≤ (sI (sI (sI h 405 a.toNatClampNeg b) 406 a.toNatClampNeg 0) 407 a.toNatClampNeg d).1 := hn90
        have hL148 : LK (sI (sI (sI h 405 a.toNatClampNeg b) 406 a.toNatClampNeg 0) 407 a.toNatClampNeg d) := hL90
        refine e_ld (pc' := 48) i133_47 rfl rfl ?_
        refine e_get (w := .ref 408) (pc' := 51) i133_48 rfl (x_isC (by decide) hn148 sh397) (x_fvR (by decide +kernel) (hL148 397 11 408 lk397_11)) ?_
        refine e_ld (pc' := 52) i133_51 rfl rfl ?_
        refine e_ld (pc' := 53) i133_52 rfl rfl ?_
        refine e_cn (pc' := 54) i133_53 rfl ?_
        refine e_icT i133_54 (decide_eq_true (of_decide_eq_false c91)) ?_
        refine e_cn (pc' := 63) i133_62 rfl ?_
        obtain ⟨g150, hP⟩ := hP
        refine e_as (n := a.toNatClampNeg) (h' := sI (sI (sI (sI h 405 a.toNatClampNeg b) 406 a.toNatClampNeg 0) 407 a.toNatClampNeg d) 408 a.toNatClampNeg 0) (pc' := 64) i133_63 rfl (x_alX (a := 20) (by decide) hn148 sh408 (by decide) g150) rfl (by rw [show (SH 408).1 = 20 by rw [sh408]]; rfl) ?_
        have hn151 : 444 ≤ (sI (sI (sI (sI h 405 a.toNatClampNeg b) 406 a.toNatClampNeg 0) 407 a.toNatClampNeg d) 408 a.toNatClampNeg 0).1 := hn148
        have hL151 : LK (sI (sI (sI (sI h 405 a.toNatClampNeg b) 406 a.toNatClampNeg 0) 407 a.toNatClampNeg d) 408 a.toNatClampNeg 0) := hL148
        refine e_ld (pc' := 65) i133_64 rfl rfl ?_
        refine e_get (w := .ref 409) (pc' := 68) i133_65 rfl (x_isC (by decide) hn151 sh397) (x_fvR (by decide +kernel) (hL151 397 12 409 lk397_12)) ?_
        refine e_ld (pc' := 69) i133_68 rfl rfl ?_
        refine e_cn (pc' := 70) i133_69 rfl ?_
        obtain ⟨g152, hP⟩ := hP
        refine e_as (n := a.toNatClampNeg) (h' := sI (sI (sI (sI (sI h 405 a.toNatClampNeg b) 406 a.toNatClampNeg 0) 407 a.toNatClampNeg d) 408 a.toNatClampNeg 0) 409 a.toNatClampNeg 0) (pc' := 71) i133_70 rfl (x_alX (a := 20) (by decide) hn151 sh409 (by decide) g152) rfl (by rw [show (SH 409).1 = 20 by rw [sh409]]; rfl) ?_
        have hn153 : 444 ≤ (sI (sI (sI (sI (sI h 405 a.toNatClampNeg b) 406 a.toNatClampNeg 0) 407 a.toNatClampNeg d) 408 a.toNatClampNeg 0) 409 a.toNatClampNeg 0).1 := hn151
        have hL153 : LK (sI (sI (sI (sI (sI h 405 a.toNatClampNeg b) 406 a.toNatClampNeg 0) 407 a.toNatClampNeg d) 408 a.toNatClampNeg 0) 409 a.toNatClampNeg 0) := hL151
        refine e_ld (pc' := 72) i133_71 rfl rfl ?_
        refine e_get (w := .ref 410) (pc' := 75) i133_72 rfl (x_isC (by decide) hn153 sh397) (x_fvR (by decide +kernel) (hL153 397 13 410 lk397_13)) ?_
        refine e_ld (pc' := 76) i133_75 rfl rfl ?_
        refine e_cn (pc' := 77) i133_76 rfl ?_
        obtain ⟨g154, hP⟩ := hP
        refine e_as (n := a.toNatClampNeg) (h' := sI (sI (sI (sI (sI (sI h 405 a.toNatClampNeg b) 406 a.toNatClampNeg 0) 407 a.toNatClampNeg d) 408 a.toNatClampNeg 0) 409 a.toNatClampNeg 0) 410 a.toNatClampNeg 0) (pc' := 78) i133_77 rfl (x_alX (a := 20) (by decide) hn153 sh410 (by decide) g154) rfl (by rw [show (SH 410).1 = 20 by rw [sh410]]; rfl) ?_
        have hn155 : 444 ≤ (sI (sI (sI (sI (sI (sI h 405 a.toNatClampNeg b) 406 a.toNatClampNeg 0) 407 a.toNatClampNeg d) 408 a.toNatClampNeg 0) 409 a.toNatClampNeg 0) 410 a.toNatClampNeg 0).1 := hn153
        have hL155 : LK (sI (sI (sI (sI (sI (sI h 405 a.toNatClampNeg b) 406 a.toNatClampNeg 0) 407 a.toNatClampNeg d) 408 a.toNatClampNeg 0) 409 a.toNatClampNeg 0) 410 a.toNatClampNeg 0) := hL153
        refine e_ld (pc' := 79) i133_78 rfl rfl ?_
        refine e_get (w := .ref 412) (pc' := 82) i133_79 rfl (x_isC (by decide) hn155 sh397) (x_fvR (by decide +kernel) (hL155 397 16 412 lk397_16)) ?_
        refine e_ld (pc' := 83) i133_82 rfl rfl ?_
        refine e_cn (pc' := 84) i133_83 rfl ?_
        obtain ⟨g156, hP⟩ := hP
        refine e_as (n := a.toNatClampNeg) (h' := sI (sI (sI (sI (sI (sI (sI h 405 a.toNatClampNeg b) 406 a.toNatClampNeg 0) 407 a.toNatClampNeg d) 408 a.toNatClampNeg 0) 409 a.toNatClampNeg 0) 410 a.toNatClampNeg 0) 412 a.toNatClampNeg 0) (pc' := 85) i133_84 rfl (x_alX (a := 20) (by decide) hn155 sh412 (by decide) g156) rfl (by rw [show (SH 412).1 = 20 by rw [sh412]]; rfl) ?_
        have hn157 : 444 ≤ (sI (sI (sI (sI (sI (sI (sI h 405 a.toNatClampNeg b) 406 a.toNatClampNeg 0) 407 a.toNatClampNeg d) 408 a.toNatClampNeg 0) 409 a.toNatClampNeg 0) 410 a.toNatClampNeg 0) 412 a.toNatClampNeg 0).1 := hn155
        have hL157 : LK (sI (sI (sI (sI (sI (sI (sI h 405 a.toNatClampNeg b) 406 a.toNatClampNeg 0) 407 a.toNatClampNeg d) 408 a.toNatClampNeg 0) 409 a.toNatClampNeg 0) 410 a.toNatClampNeg 0) 412 a.toNatClampNeg 0) := hL155
        refine e_ld (pc' := 86) i133_85 rfl rfl ?_
        refine e_get (w := .ref 413) (pc' := 89) i133_86 rfl (x_isC (by decide) hn157 sh397) (x_fvR (by decide +kernel) (hL157 397 17 413 lk397_17)) ?_
        refine e_ld (pc' := 90) i133_89 rfl rfl ?_
        refine e_cn (pc' := 91) i133_90 rfl ?_
        obtain ⟨g158, hP⟩ := hP
        refine e_as (n := a.toNatClampNeg) (h' := sI (sI (sI (sI (sI (sI (sI (sI h 405 a.toNatClampNeg b) 406 a.toNatClampNeg 0) 407 a.toNatClampNeg d) 408 a.toNatClampNeg 0) 409 a.toNatClampNeg 0) 410 a.toNatClampNeg 0) 412 a.toNatClampNeg 0) 413 a.toNatClampNeg 0) (pc' := 92) i133_91 rfl (x_alX (a := 20) (by decide) hn157 sh413 (by decide) g158) rfl (by rw [show (SH 413).1 = 20 by rw [sh413]]; rfl) ?_
        have hn159 : 444 ≤ (sI (sI (sI (sI (sI (sI (sI (sI h 405 a.toNatClampNeg b) 406 a.toNatClampNeg 0) 407 a.toNatClampNeg d) 408 a.toNatClampNeg 0) 409 a.toNatClampNeg 0) 410 a.toNatClampNeg 0) 412 a.toNatClampNeg 0) 413 a.toNatClampNeg 0).1 := hn157
        have hL159 : LK (sI (sI (sI (sI (sI (sI (sI (sI h 405 a.toNatClampNeg b) 406 a.toNatClampNeg 0) 407 a.toNatClampNeg d) 408 a.toNatClampNeg 0) 409 a.toNatClampNeg 0) 410 a.toNatClampNeg 0) 412 a.toNatClampNeg 0) 413 a.toNatClampNeg 0) := hL157
        refine e_ld (pc' := 93) i133_92 rfl rfl ?_
        refine e_get (w := .ref 414) (pc' := 96) i133_93 rfl (x_isC (by decide) hn159 sh397) (x_fvR (by decide +kernel) (hL159 397 18 414 lk397_18)) ?_
        refine e_ld (pc' := 97) i133_96 rfl rfl ?_
        refine e_cn (pc' := 98) i133_97 rfl ?_
        obtain ⟨g160, hP⟩ := hP
        refine e_as (n := a.toNatClampNeg) (h' := sI (sI (sI (sI (sI (sI (sI (sI (sI h 405 a.toNatClampNeg b) 406 a.toNatClampNeg 0) 407 a.toNatClampNeg d) 408 a.toNatClampNeg 0) 409 a.toNatClampNeg 0) 410 a.toNatClampNeg 0) 412 a.toNatClampNeg 0) 413 a.toNatClampNeg 0) 414 a.toNatClampNeg 0) (pc' := 99) i133_98 rfl (x_alX (a := 20) (by decide) hn159 sh414 (by decide) g160) rfl (by rw [show (SH 414).1 = 20 by rw [sh414]]; rfl) ?_
        have hn161 : 444 ≤ (sI (sI (sI (sI (sI (sI (sI (sI (sI h 405 a.toNatClampNeg b) 406 a.toNatClampNeg 0) 407 a.toNatClampNeg d) 408 a.toNatClampNeg 0) 409 a.toNatClampNeg 0) 410 a.toNatClampNeg 0) 412 a.toNatClampNeg 0) 413 a.toNatClampNeg 0) 414 a.toNatClampNeg 0).1 := hn159
        have hL161 : LK (sI (sI (sI (sI (sI (sI (sI (sI (sI h 405 a.toNatClampNeg b) 406 a.toNatClampNeg 0) 407 a.toNatClampNeg d) 408 a.toNatClampNeg 0) 409 a.toNatClampNeg 0) 410 a.toNatClampNeg 0) 412 a.toNatClampNeg 0) 413 a.toNatClampNeg 0) 414 a.toNatClampNeg 0) := hL159
        refine e_ld (pc' := 100) i133_99 rfl rfl ?_
        refine e_get (w := .ref 415) (pc' := 103) i133_100 rfl (x_isC (by decide) hn161 sh397) (x_fvR (by decide +kernel) (hL161 397 19 415 lk397_19)) ?_
        refine e_ld (pc' := 104) i133_103 rfl rfl ?_
        refine e_cn (pc' := 105) i133_104 rfl ?_
        obtain ⟨g162, hP⟩ := hP
        refine e_as (n := a.toNatClampNeg) (h' := sI (sI (sI (sI (sI (sI (sI (sI (sI (sI h 405 a.toNatClampNeg b) 406 a.toNatClampNeg 0) 407 a.toNatClampNeg d) 408 a.toNatClampNeg 0) 409 a.toNatClampNeg 0) 410 a.toNatClampNeg 0) 412 a.toNatClampNeg 0) 413 a.toNatClampNeg 0) 414 a.toNatClampNeg 0) 415 a.toNatClampNeg 0) (pc' := 106) i133_105 rfl (x_alX (a := 20) (by decide) hn161 sh415 (by decide) g162) rfl (by rw [show (SH 415).1 = 20 by rw [sh415]]; rfl) ?_
        have hn163 : 444 ≤ (sI (sI (sI (sI (sI (sI (sI (sI (sI (sI h 405 a.toNatClampNeg b) 406 a.toNatClampNeg 0) 407 a.toNatClampNeg d) 408 a.toNatClampNeg 0) 409 a.toNatClampNeg 0) 410 a.toNatClampNeg 0) 412 a.toNatClampNeg 0) 413 a.toNatClampNeg 0) 414 a.toNatClampNeg 0) 415 a.toNatClampNeg 0).1 := hn161
        have hL163 : LK (sI (sI (sI (sI (sI (sI (sI (sI (sI (sI h 405 a.toNatClampNeg b) 406 a.toNatClampNeg 0) 407 a.toNatClampNeg d) 408 a.toNatClampNeg 0) 409 a.toNatClampNeg 0) 410 a.toNatClampNeg 0) 412 a.toNatClampNeg 0) 413 a.toNatClampNeg 0) 414 a.toNatClampNeg 0) 415 a.toNatClampNeg 0) := hL161
        refine e_ld (pc' := 107) i133_106 rfl rfl ?_
        refine e_get (w := .ref 416) (pc' := 110) i133_107 rfl (x_isC (by decide) hn163 sh397) (x_fvR (by decide +kernel) (hL163 397 20 416 lk397_20)) ?_
        refine e_ld (pc' := 111) i133_110 rfl rfl ?_
        refine e_cn (pc' := 112) i133_111 rfl ?_
        obtain ⟨g164, hP⟩ := hP
        refine e_as (n := a.toNatClampNeg) (h' := sI (sI (sI (sI (sI (sI (sI (sI (sI (sI (sI h 405 a.toNatClampNeg b) 406 a.toNatClampNeg 0) 407 a.toNatClampNeg d) 408 a.toNatClampNeg 0) 409 a.toNatClampNeg 0) 410 a.toNatClampNeg 0) 412 a.toNatClampNeg 0) 413 a.toNatClampNeg 0) 414 a.toNatClampNeg 0) 415 a.toNatClampNeg 0) 416 a.toNatClampNeg 0) (pc' := 113) i133_112 rfl (x_alX (a := 22) (by decide) hn163 sh416 (by decide) g164) rfl (by rw [show (SH 416).1 = 22 by rw [sh416]]; rfl) ?_
        have hn165 : 444 ≤ (sI (sI (sI (sI (sI (sI (sI (sI (sI (sI (sI h 405 a.toNatClampNeg b) 406 a.toNatClampNeg 0) 407 a.toNatClampNeg d) 408 a.toNatClampNeg 0) 409 a.toNatClampNeg 0) 410 a.toNatClampNeg 0) 412 a.toNatClampNeg 0) 413 a.toNatClampNeg 0) 414 a.toNatClampNeg 0) 415 a.toNatClampNeg 0) 416 a.toNatClampNeg 0).1 := hn163
        have hL165 : LK (sI (sI (sI (sI (sI (sI (sI (sI (sI (sI (sI h 405 a.toNatClampNeg b) 406 a.toNatClampNeg 0) 407 a.toNatClampNeg d) 408 a.toNatClampNeg 0) 409 a.toNatClampNeg 0) 410 a.toNatClampNeg 0) 412 a.toNatClampNeg 0) 413 a.toNatClampNeg 0) 414 a.toNatClampNeg 0) 415 a.toNatClampNeg 0) 416 a.toNatClampNeg 0) := hL163
        refine e_ld (pc' := 114) i133_113 rfl rfl ?_
        refine e_get (w := .ref 417) (pc' := 117) i133_114 rfl (x_isC (by decide) hn165 sh397) (x_fvR (by decide +kernel) (hL165 397 21 417 lk397_21)) ?_
        refine e_cn (pc' := 118) i133_117 rfl ?_
        refine e_ld (pc' := 119) i133_118 rfl rfl ?_
        refine e_ib (z := 2 * a) (pc' := 120) i133_119 rfl rfl ?_
        refine e_cn (pc' := 121) i133_120 rfl ?_
        obtain ⟨g166, hP⟩ := hP
        refine e_as (n := (2 * a).toNatClampNeg) (h' := sI (sI (sI (sI (sI (sI (sI (sI (sI (sI (sI (sI h 405 a.toNatClampNeg b) 406 a.toNatClampNeg 0) 407 a.toNatClampNeg d) 408 a.toNatClampNeg 0) 409 a.toNatClampNeg 0) 410 a.toNatClampNeg 0) 412 a.toNatClampNeg 0) 413 a.toNatClampNeg 0) 414 a.toNatClampNeg 0) 415 a.toNatClampNeg 0) 416 a.toNatClampNeg 0) 417 ((2 * a).toNatClampNeg) 0) (pc' := 122) i133_121 rfl (x_alX (a := 20) (by decide) hn165 sh417 (by decide) g166) rfl (by rw [show (SH 417).1 = 20 by rw [sh417]]; rfl) ?_
        have hn167 : 444 ≤ (sI (sI (sI (sI (sI (sI (sI (sI (sI (sI (sI (sI h 405 a.toNatClampNeg b) 406 a.toNatClampNeg 0) 407 a.toNatClampNeg d) 408 a.toNatClampNeg 0) 409 a.toNatClampNeg 0) 410 a.toNatClampNeg 0) 412 a.toNatClampNeg 0) 413 a.toNatClampNeg 0) 414 a.toNatClampNeg 0) 415 a.toNatClampNeg 0) 416 a.toNatClampNeg 0) 417 ((2 * a).toNatClampNeg) 0).1 := hn165
        have hL167 : LK (sI (sI (sI (sI (sI (sI (sI (sI (sI (sI (sI (sI h 405 a.toNatClampNeg b) 406 a.toNatClampNeg 0) 407 a.toNatClampNeg d) 408 a.toNatClampNeg 0) 409 a.toNatClampNeg 0) 410 a.toNatClampNeg 0) 412 a.toNatClampNeg 0) 413 a.toNatClampNeg 0) 414 a.toNatClampNeg 0) 415 a.toNatClampNeg 0) 416 a.toNatClampNeg 0) 417 ((2 * a).toNatClampNeg) 0) := hL165
        refine e_ld (pc' := 123) i133_122 rfl rfl ?_
        refine e_get (w := .ref 417) (pc' := 126) i133_123 rfl (x_isC (by decide) hn167 sh397) (x_fvR (by decide +kernel) (hL167 397 21 417 lk397_21)) ?_
        refine e_cn (pc' := 127) i133_126 rfl ?_
        refine e_ld (pc' := 128) i133_127 rfl rfl ?_
        refine e_ib (z := 2 * a) (pc' := 129) i133_128 rfl rfl ?_
        refine e_cn (pc' := 130) i133_129 rfl ?_
        refine e_ib (z := (2 * a) + 1) (pc' := 131) i133_130 rfl rfl ?_
        refine e_cn (pc' := 132) i133_131 rfl ?_
        obtain ⟨g168, hP⟩ := hP
        refine e_as (n := ((2 * a) + 1).toNatClampNeg) (h' := sI (sI (sI (sI (sI (sI (sI (sI (sI (sI (sI (sI (sI h 405 a.toNatClampNeg b) 406 a.toNatClampNeg 0) 407 a.toNatClampNeg d) 408 a.toNatClampNeg 0) 409 a.toNatClampNeg 0) 410 a.toNatClampNeg 0) 412 a.toNatClampNeg 0) 413 a.toNatClampNeg 0) 414 a.toNatClampNeg 0) 415 a.toNatClampNeg 0) 416 a.toNatClampNeg 0) 417 ((2 * a).toNatClampNeg) 0) 417 (((2 * a) + 1).toNatClampNeg) 0) (pc' := 133) i133_132 rfl (x_alX (a := 20) (by decide) hn167 sh417 (by decide) g168) rfl (by rw [show (SH 417).1 = 20 by rw [sh417]]; rfl) ?_
        have hn169 : 444 ≤ (sI (sI (sI (sI (sI (sI (sI (sI (sI (sI (sI (sI (sI h 405 a.toNatClampNeg b) 406 a.toNatClampNeg 0) 407 a.toNatClampNeg d) 408 a.toNatClampNeg 0) 409 a.toNatClampNeg 0) 410 a.toNatClampNeg 0) 412 a.toNatClampNeg 0) 413 a.toNatClampNeg 0) 414 a.toNatClampNeg 0) 415 a.toNatClampNeg 0) 416 a.toNatClampNeg 0) 417 ((2 * a).toNatClampNeg) 0) 417 (((2 * a) + 1).toNatClampNeg) 0).1 := hn167
        have hL169 : LK (sI (sI (sI (sI (sI (sI (sI (sI (sI (sI (sI (sI (sI h 405 a.toNatClampNeg b) 406 a.toNatClampNeg 0) 407 a.toNatClampNeg d) 408 a.toNatClampNeg 0) 409 a.toNatClampNeg 0) 410 a.toNatClampNeg 0) 412 a.toNatClampNeg 0) 413 a.toNatClampNeg 0) 414 a.toNatClampNeg 0) 415 a.toNatClampNeg 0) 416 a.toNatClampNeg 0) 417 ((2 * a).toNatClampNeg) 0) 417 (((2 * a) + 1).toNatClampNeg) 0) := hL167
        refine e_ld (pc' := 134) i133_133 rfl rfl ?_
        refine e_get (w := .ref 418) (pc' := 137) i133_134 rfl (x_isC (by decide) hn169 sh397) (x_fvR (by decide +kernel) (hL169 397 22 418 lk397_22)) ?_
        refine e_ld (pc' := 138) i133_137 rfl rfl ?_
        refine e_cn (pc' := 139) i133_138 rfl ?_
        obtain ⟨g170, hP⟩ := hP
        refine e_as (n := a.toNatClampNeg) (h' := sI (sI (sI (sI (sI (sI (sI (sI (sI (sI (sI (sI (sI (sI h 405 a.toNatClampNeg b) 406 a.toNatClampNeg 0) 407 a.toNatClampNeg d) 408 a.toNatClampNeg 0) 409 a.toNatClampNeg 0) 410 a.toNatClampNeg 0) 412 a.toNatClampNeg 0) 413 a.toNatClampNeg 0) 414 a.toNatClampNeg 0) 415 a.toNatClampNeg 0) 416 a.toNatClampNeg 0) 417 ((2 * a).toNatClampNeg) 0) 417 (((2 * a) + 1).toNatClampNeg) 0) 418 a.toNatClampNeg 3) (pc' := 140) i133_139 rfl (x_alX (a := 20) (by decide) hn169 sh418 (by decide) g170) rfl (by rw [show (SH 418).1 = 20 by rw [sh418]]; rfl) ?_
        have hn171 : 444 ≤ (sI (sI (sI (sI (sI (sI (sI (sI (sI (sI (sI (sI (sI (sI h 405 a.toNatClampNeg b) 406 a.toNatClampNeg 0) 407 a.toNatClampNeg d) 408 a.toNatClampNeg 0) 409 a.toNatClampNeg 0) 410 a.toNatClampNeg 0) 412 a.toNatClampNeg 0) 413 a.toNatClampNeg 0) 414 a.toNatClampNeg 0) 415 a.toNatClampNeg 0) 416 a.toNatClampNeg 0) 417 ((2 * a).toNatClampNeg) 0) 417 (((2 * a) + 1).toNatClampNeg) 0) 418 a.toNatClampNeg 3).1 := hn169
        have hL171 : LK (sI (sI (sI (sI (sI (sI (sI (sI (sI (sI (sI (sI (sI (sI h 405 a.toNatClampNeg b) 406 a.toNatClampNeg 0) 407 a.toNatClampNeg d) 408 a.toNatClampNeg 0) 409 a.toNatClampNeg 0) 410 a.toNatClampNeg 0) 412 a.toNatClampNeg 0) 413 a.toNatClampNeg 0) 414 a.toNatClampNeg 0) 415 a.toNatClampNeg 0) 416 a.toNatClampNeg 0) 417 ((2 * a).toNatClampNeg) 0) 417 (((2 * a) + 1).toNatClampNeg) 0) 418 a.toNatClampNeg 3) := hL169
        refine e_ld (pc' := 141) i133_140 rfl rfl ?_
        refine e_get (w := .ref 419) (pc' := 144) i133_141 rfl (x_isC (by decide) hn171 sh397) (x_fvR (by decide +kernel) (hL171 397 23 419 lk397_23)) ?_
        refine e_ld (pc' := 145) i133_144 rfl rfl ?_
        refine e_cn (pc' := 146) i133_145 rfl ?_
        obtain ⟨g172, hP⟩ := hP
        refine e_as (n := a.toNatClampNeg) (h' := sI (sI (sI (sI (sI (sI (sI (sI (sI (sI (sI (sI (sI (sI (sI h 405 a.toNatClampNeg b) 406 a.toNatClampNeg 0) 407 a.toNatClampNeg d) 408 a.toNatClampNeg 0) 409 a.toNatClampNeg 0) 410 a.toNatClampNeg 0) 412 a.toNatClampNeg 0) 413 a.toNatClampNeg 0) 414 a.toNatClampNeg 0) 415 a.toNatClampNeg 0) 416 a.toNatClampNeg 0) 417 ((2 * a).toNatClampNeg) 0) 417 (((2 * a) + 1).toNatClampNeg) 0) 418 a.toNatClampNeg 3) 419 a.toNatClampNeg 3) (pc' := 147) i133_146 rfl (x_alX (a := 20) (by decide) hn171 sh419 (by decide) g172) rfl (by rw [show (SH 419).1 = 20 by rw [sh419]]; rfl) ?_
        have hn173 : 444 ≤ (sI (sI (sI (sI (sI (sI (sI (sI (sI (sI (sI (sI (sI (sI (sI h 405 a.toNatClampNeg b) 406 a.toNatClampNeg 0) 407 a.toNatClampNeg d) 408 a.toNatClampNeg 0) 409 a.toNatClampNeg 0) 410 a.toNatClampNeg 0) 412 a.toNatClampNeg 0) 413 a.toNatClampNeg 0) 414 a.toNatClampNeg 0) 415 a.toNatClampNeg 0) 416 a.toNatClampNeg 0) 417 ((2 * a).toNatClampNeg) 0) 417 (((2 * a) + 1).toNatClampNeg) 0) 418 a.toNatClampNeg 3) 419 a.toNatClampNeg 3).1 := hn171
        have hL173 : LK (sI (sI (sI (sI (sI (sI (sI (sI (sI (sI (sI (sI (sI (sI (sI h 405 a.toNatClampNeg b) 406 a.toNatClampNeg 0) 407 a.toNatClampNeg d) 408 a.toNatClampNeg 0) 409 a.toNatClampNeg 0) 410 a.toNatClampNeg 0) 412 a.toNatClampNeg 0) 413 a.toNatClampNeg 0) 414 a.toNatClampNeg 0) 415 a.toNatClampNeg 0) 416 a.toNatClampNeg 0) 417 ((2 * a).toNatClampNeg) 0) 417 (((2 * a) + 1).toNatClampNeg) 0) 418 a.toNatClampNeg 3) 419 a.toNatClampNeg 3) := hL171
        refine e_rt i133_147 rfl ?_
        exact ⟨rfl, by unfold G133; simp only [if_pos (show b = 7 from (Decidable.not_not.mp (of_decide_eq_false c3))), if_neg (show ¬ (b = 5) from (of_decide_eq_false c91)), if_pos (show b = 6 from (Decidable.not_not.mp (of_decide_eq_false c119)))]⟩
