/-! Conditions of methods (made by wip/whole/vcmake.py). -/
-- FloorTurnModel.lays(IIIII)V
set_option maxHeartbeats 8000000 in
set_option maxRecDepth 100000 in
theorem v133 {L : Nat} {xs : Nat → Int32} {Q : Option Value → Hp → Prop} {h : Hp} {x : Int32} {y : Int32} {z : Int32} {u : Int32} {v : Int32} (hw : HW h) 
  (H : ∃ k1 : Nat, x = nI k1 ∧ k1 < 144 ∧ ∃ k31 : Nat, (2 * x) = nI k31 ∧ k31 < 864 ∧ ∃ k35 : Nat, ((2 * x) + 1) = nI k35 ∧ k35 < 864 ∧ Q none (sI (sI (sI (sI (sI (sI (sI (sI (sI (sI (sI (sI (sI (sI (sI h 405 k1 y) 406 k1 (if y = 7 then (0) else (z))) 407 k1 (if y = 5 then (u) else (if y = 6 then (u) else (0)))) 408 k1 (if y = 5 then (v) else (0))) 409 k1 0) 410 k1 0) 412 k1 0) 413 k1 0) 414 k1 0) 415 k1 0) 416 k1 0) 417 k31 0) 417 k35 0) 418 k1 3) 419 k1 3)) : ∃ r h', Sp L xs 133 [.ref 397, .int x, .int y, .int z, .int u, .int v] h r h' ∧ Q r h' := by
  refine sp_ex (ls := [some (.ref 397), some (.int x), some (.int y), some (.int z), some (.int u), some (.int v)]) rfl ?_
  refine e_ld (pc' := 1) i133_0 rfl rfl ?_
  refine e_get (w := .ref 405) (pc' := 4) i133_1 rfl (x_isC (by decide) hw.1 sh397) (x_fvR (by decide +kernel) (hw.2 397 8 405 lk397_8)) ?_
  refine e_ld (pc' := 5) i133_4 rfl rfl ?_
  refine e_ld (pc' := 6) i133_5 rfl rfl ?_
  obtain ⟨k1, e2, g3, H⟩ := H
  refine e_as (n := k1) (h' := sI h 405 k1 y) (pc' := 7) i133_6 rfl (x_alE (a := 20) (by decide) hw.1 sh405 (by decide) e2 g3 (by decide)) (x_clE e2 g3 (by decide)) (by rw [(show (SH 405).1 = 20 by rw [sh405])]; rfl) ?_
  have w5 : HW (sI h 405 k1 y) := HW_sI hw
  refine e_ld (pc' := 8) i133_7 rfl rfl ?_
  refine e_get (w := .ref 406) (pc' := 11) i133_8 rfl (x_isC (by decide) w5.1 sh397) (x_fvR (by decide +kernel) (w5.2 397 9 406 lk397_9)) ?_
  refine e_ld (pc' := 12) i133_11 rfl rfl ?_
  refine e_ld (pc' := 13) i133_12 rfl rfl ?_
  refine e_cn (pc' := 15) i133_13 rfl ?_
  refine e_reg (pc' := 23) (ls' := [some (.ref 397), some (.int x), some (.int y), some (.int z), some (.int u), some (.int v)]) (st' := [.int (if y = 7 then (0) else (z)), .int x, .ref 406]) (fun kj5 => ?_) ?_
  · skip
    refine e_ic (pc' := 18) i133_15 rfl (fun c6 => ?_) (fun c6 => ?_)
    · have d7 : ¬ (y = 7) := (of_decide_eq_true c6)
      refine e_ld (pc' := 23) i133_22 rfl rfl ?_
      exact (by simp only [if_neg d7] at kj5 ⊢; exact kj5)
    · have d8 : y = 7 := (Decidable.not_not.mp (of_decide_eq_false c6))
      refine e_cn (pc' := 19) i133_18 rfl ?_
      refine e_go i133_19 ?_
      exact (by simp only [if_pos d8] at kj5 ⊢; exact kj5)
  refine e_as (n := k1) (h' := sI (sI h 405 k1 y) 406 k1 (if y = 7 then (0) else (z))) (pc' := 24) i133_23 rfl (x_alE (a := 20) (by decide) w5.1 sh406 (by decide) e2 g3 (by decide)) (x_clE e2 g3 (by decide)) (by rw [(show (SH 406).1 = 20 by rw [sh406])]; rfl) ?_
  have w11 : HW (sI (sI h 405 k1 y) 406 k1 (if y = 7 then (0) else (z))) := HW_sI w5
  refine e_ld (pc' := 25) i133_24 rfl rfl ?_
  refine e_get (w := .ref 407) (pc' := 28) i133_25 rfl (x_isC (by decide) w11.1 sh397) (x_fvR (by decide +kernel) (w11.2 397 10 407 lk397_10)) ?_
  refine e_ld (pc' := 29) i133_28 rfl rfl ?_
  refine e_ld (pc' := 30) i133_29 rfl rfl ?_
  refine e_cn (pc' := 31) i133_30 rfl ?_
  refine e_reg (pc' := 46) (ls' := [some (.ref 397), some (.int x), some (.int y), some (.int z), some (.int u), some (.int v)]) (st' := [.int (if y = 5 then (u) else (if y = 6 then (u) else (0))), .int x, .ref 407]) (fun kj10 => ?_) ?_
  · skip
    refine e_ic (pc' := 34) i133_31 rfl (fun c11 => ?_) (fun c11 => ?_)
    · have d12 : y = 5 := (of_decide_eq_true c11)
      refine e_ld (pc' := 42) i133_40 rfl rfl ?_
      refine e_go i133_42 ?_
      exact (by simp only [if_pos d12] at kj10 ⊢; exact kj10)
    · have d13 : ¬ (y = 5) := (of_decide_eq_false c11)
      refine e_ld (pc' := 35) i133_34 rfl rfl ?_
      refine e_cn (pc' := 37) i133_35 rfl ?_
      refine e_reg (pc' := 46) (ls' := [some (.ref 397), some (.int x), some (.int y), some (.int z), some (.int u), some (.int v)]) (st' := [.int (if y = 6 then (u) else (0)), .int x, .ref 407]) (fun kj14 => ?_) ?_
      · skip
        refine e_ic (pc' := 40) i133_37 rfl (fun c15 => ?_) (fun c15 => ?_)
        · have d16 : ¬ (y = 6) := (of_decide_eq_true c15)
          refine e_cn (pc' := 46) i133_45 rfl ?_
          exact (by simp only [if_neg d16] at kj14 ⊢; exact kj14)
        · have d17 : y = 6 := (Decidable.not_not.mp (of_decide_eq_false c15))
          refine e_ld (pc' := 42) i133_40 rfl rfl ?_
          refine e_go i133_42 ?_
          exact (by simp only [if_pos d17] at kj14 ⊢; exact kj14)
      exact (by simp only [if_neg d13] at kj10 ⊢; exact kj10)
  refine e_as (n := k1) (h' := sI (sI (sI h 405 k1 y) 406 k1 (if y = 7 then (0) else (z))) 407 k1 (if y = 5 then (u) else (if y = 6 then (u) else (0)))) (pc' := 47) i133_46 rfl (x_alE (a := 20) (by decide) w11.1 sh407 (by decide) e2 g3 (by decide)) (x_clE e2 g3 (by decide)) (by rw [(show (SH 407).1 = 20 by rw [sh407])]; rfl) ?_
  have w21 : HW (sI (sI (sI h 405 k1 y) 406 k1 (if y = 7 then (0) else (z))) 407 k1 (if y = 5 then (u) else (if y = 6 then (u) else (0)))) := HW_sI w11
  refine e_ld (pc' := 48) i133_47 rfl rfl ?_
  refine e_get (w := .ref 408) (pc' := 51) i133_48 rfl (x_isC (by decide) w21.1 sh397) (x_fvR (by decide +kernel) (w21.2 397 11 408 lk397_11)) ?_
  refine e_ld (pc' := 52) i133_51 rfl rfl ?_
  refine e_ld (pc' := 53) i133_52 rfl rfl ?_
  refine e_cn (pc' := 54) i133_53 rfl ?_
  refine e_reg (pc' := 63) (ls' := [some (.ref 397), some (.int x), some (.int y), some (.int z), some (.int u), some (.int v)]) (st' := [.int (if y = 5 then (v) else (0)), .int x, .ref 408]) (fun kj19 => ?_) ?_
  · skip
    refine e_ic (pc' := 57) i133_54 rfl (fun c20 => ?_) (fun c20 => ?_)
    · have d21 : ¬ (y = 5) := (of_decide_eq_true c20)
      refine e_cn (pc' := 63) i133_62 rfl ?_
      exact (by simp only [if_neg d21] at kj19 ⊢; exact kj19)
    · have d22 : y = 5 := (Decidable.not_not.mp (of_decide_eq_false c20))
      refine e_ld (pc' := 59) i133_57 rfl rfl ?_
      refine e_go i133_59 ?_
      exact (by simp only [if_pos d22] at kj19 ⊢; exact kj19)
  refine e_as (n := k1) (h' := sI (sI (sI (sI h 405 k1 y) 406 k1 (if y = 7 then (0) else (z))) 407 k1 (if y = 5 then (u) else (if y = 6 then (u) else (0)))) 408 k1 (if y = 5 then (v) else (0))) (pc' := 64) i133_63 rfl (x_alE (a := 20) (by decide) w21.1 sh408 (by decide) e2 g3 (by decide)) (x_clE e2 g3 (by decide)) (by rw [(show (SH 408).1 = 20 by rw [sh408])]; rfl) ?_
  have w27 : HW (sI (sI (sI (sI h 405 k1 y) 406 k1 (if y = 7 then (0) else (z))) 407 k1 (if y = 5 then (u) else (if y = 6 then (u) else (0)))) 408 k1 (if y = 5 then (v) else (0))) := HW_sI w21
  refine e_ld (pc' := 65) i133_64 rfl rfl ?_
  refine e_get (w := .ref 409) (pc' := 68) i133_65 rfl (x_isC (by decide) w27.1 sh397) (x_fvR (by decide +kernel) (w27.2 397 12 409 lk397_12)) ?_
  refine e_ld (pc' := 69) i133_68 rfl rfl ?_
  refine e_cn (pc' := 70) i133_69 rfl ?_
  refine e_as (n := k1) (h' := sI (sI (sI (sI (sI h 405 k1 y) 406 k1 (if y = 7 then (0) else (z))) 407 k1 (if y = 5 then (u) else (if y = 6 then (u) else (0)))) 408 k1 (if y = 5 then (v) else (0))) 409 k1 0) (pc' := 71) i133_70 rfl (x_alE (a := 20) (by decide) w27.1 sh409 (by decide) e2 g3 (by decide)) (x_clE e2 g3 (by decide)) (by rw [(show (SH 409).1 = 20 by rw [sh409])]; rfl) ?_
  have w29 : HW (sI (sI (sI (sI (sI h 405 k1 y) 406 k1 (if y = 7 then (0) else (z))) 407 k1 (if y = 5 then (u) else (if y = 6 then (u) else (0)))) 408 k1 (if y = 5 then (v) else (0))) 409 k1 0) := HW_sI w27
  refine e_ld (pc' := 72) i133_71 rfl rfl ?_
  refine e_get (w := .ref 410) (pc' := 75) i133_72 rfl (x_isC (by decide) w29.1 sh397) (x_fvR (by decide +kernel) (w29.2 397 13 410 lk397_13)) ?_
  refine e_ld (pc' := 76) i133_75 rfl rfl ?_
  refine e_cn (pc' := 77) i133_76 rfl ?_
  refine e_as (n := k1) (h' := sI (sI (sI (sI (sI (sI h 405 k1 y) 406 k1 (if y = 7 then (0) else (z))) 407 k1 (if y = 5 then (u) else (if y = 6 then (u) else (0)))) 408 k1 (if y = 5 then (v) else (0))) 409 k1 0) 410 k1 0) (pc' := 78) i133_77 rfl (x_alE (a := 20) (by decide) w29.1 sh410 (by decide) e2 g3 (by decide)) (x_clE e2 g3 (by decide)) (by rw [(show (SH 410).1 = 20 by rw [sh410])]; rfl) ?_
  have w31 : HW (sI (sI (sI (sI (sI (sI h 405 k1 y) 406 k1 (if y = 7 then (0) else (z))) 407 k1 (if y = 5 then (u) else (if y = 6 then (u) else (0)))) 408 k1 (if y = 5 then (v) else (0))) 409 k1 0) 410 k1 0) := HW_sI w29
  refine e_ld (pc' := 79) i133_78 rfl rfl ?_
  refine e_get (w := .ref 412) (pc' := 82) i133_79 rfl (x_isC (by decide) w31.1 sh397) (x_fvR (by decide +kernel) (w31.2 397 16 412 lk397_16)) ?_
  refine e_ld (pc' := 83) i133_82 rfl rfl ?_
  refine e_cn (pc' := 84) i133_83 rfl ?_
  refine e_as (n := k1) (h' := sI (sI (sI (sI (sI (sI (sI h 405 k1 y) 406 k1 (if y = 7 then (0) else (z))) 407 k1 (if y = 5 then (u) else (if y = 6 then (u) else (0)))) 408 k1 (if y = 5 then (v) else (0))) 409 k1 0) 410 k1 0) 412 k1 0) (pc' := 85) i133_84 rfl (x_alE (a := 20) (by decide) w31.1 sh412 (by decide) e2 (show k1 < 432 from Nat.lt_of_lt_of_le g3 (by decide)) (by decide)) (x_clE e2 (show k1 < 432 from Nat.lt_of_lt_of_le g3 (by decide)) (by decide)) (by rw [(show (SH 412).1 = 20 by rw [sh412])]; rfl) ?_
  have w33 : HW (sI (sI (sI (sI (sI (sI (sI h 405 k1 y) 406 k1 (if y = 7 then (0) else (z))) 407 k1 (if y = 5 then (u) else (if y = 6 then (u) else (0)))) 408 k1 (if y = 5 then (v) else (0))) 409 k1 0) 410 k1 0) 412 k1 0) := HW_sI w31
  refine e_ld (pc' := 86) i133_85 rfl rfl ?_
  refine e_get (w := .ref 413) (pc' := 89) i133_86 rfl (x_isC (by decide) w33.1 sh397) (x_fvR (by decide +kernel) (w33.2 397 17 413 lk397_17)) ?_
  refine e_ld (pc' := 90) i133_89 rfl rfl ?_
  refine e_cn (pc' := 91) i133_90 rfl ?_
  refine e_as (n := k1) (h' := sI (sI (sI (sI (sI (sI (sI (sI h 405 k1 y) 406 k1 (if y = 7 then (0) else (z))) 407 k1 (if y = 5 then (u) else (if y = 6 then (u) else (0)))) 408 k1 (if y = 5 then (v) else (0))) 409 k1 0) 410 k1 0) 412 k1 0) 413 k1 0) (pc' := 92) i133_91 rfl (x_alE (a := 20) (by decide) w33.1 sh413 (by decide) e2 (show k1 < 432 from Nat.lt_of_lt_of_le g3 (by decide)) (by decide)) (x_clE e2 (show k1 < 432 from Nat.lt_of_lt_of_le g3 (by decide)) (by decide)) (by rw [(show (SH 413).1 = 20 by rw [sh413])]; rfl) ?_
  have w35 : HW (sI (sI (sI (sI (sI (sI (sI (sI h 405 k1 y) 406 k1 (if y = 7 then (0) else (z))) 407 k1 (if y = 5 then (u) else (if y = 6 then (u) else (0)))) 408 k1 (if y = 5 then (v) else (0))) 409 k1 0) 410 k1 0) 412 k1 0) 413 k1 0) := HW_sI w33
  refine e_ld (pc' := 93) i133_92 rfl rfl ?_
  refine e_get (w := .ref 414) (pc' := 96) i133_93 rfl (x_isC (by decide) w35.1 sh397) (x_fvR (by decide +kernel) (w35.2 397 18 414 lk397_18)) ?_
  refine e_ld (pc' := 97) i133_96 rfl rfl ?_
  refine e_cn (pc' := 98) i133_97 rfl ?_
  refine e_as (n := k1) (h' := sI (sI (sI (sI (sI (sI (sI (sI (sI h 405 k1 y) 406 k1 (if y = 7 then (0) else (z))) 407 k1 (if y = 5 then (u) else (if y = 6 then (u) else (0)))) 408 k1 (if y = 5 then (v) else (0))) 409 k1 0) 410 k1 0) 412 k1 0) 413 k1 0) 414 k1 0) (pc' := 99) i133_98 rfl (x_alE (a := 20) (by decide) w35.1 sh414 (by decide) e2 (show k1 < 432 from Nat.lt_of_lt_of_le g3 (by decide)) (by decide)) (x_clE e2 (show k1 < 432 from Nat.lt_of_lt_of_le g3 (by decide)) (by decide)) (by rw [(show (SH 414).1 = 20 by rw [sh414])]; rfl) ?_
  have w37 : HW (sI (sI (sI (sI (sI (sI (sI (sI (sI h 405 k1 y) 406 k1 (if y = 7 then (0) else (z))) 407 k1 (if y = 5 then (u) else (if y = 6 then (u) else (0)))) 408 k1 (if y = 5 then (v) else (0))) 409 k1 0) 410 k1 0) 412 k1 0) 413 k1 0) 414 k1 0) := HW_sI w35
  refine e_ld (pc' := 100) i133_99 rfl rfl ?_
  refine e_get (w := .ref 415) (pc' := 103) i133_100 rfl (x_isC (by decide) w37.1 sh397) (x_fvR (by decide +kernel) (w37.2 397 19 415 lk397_19)) ?_
  refine e_ld (pc' := 104) i133_103 rfl rfl ?_
  refine e_cn (pc' := 105) i133_104 rfl ?_
  refine e_as (n := k1) (h' := sI (sI (sI (sI (sI (sI (sI (sI (sI (sI h 405 k1 y) 406 k1 (if y = 7 then (0) else (z))) 407 k1 (if y = 5 then (u) else (if y = 6 then (u) else (0)))) 408 k1 (if y = 5 then (v) else (0))) 409 k1 0) 410 k1 0) 412 k1 0) 413 k1 0) 414 k1 0) 415 k1 0) (pc' := 106) i133_105 rfl (x_alE (a := 20) (by decide) w37.1 sh415 (by decide) e2 (show k1 < 432 from Nat.lt_of_lt_of_le g3 (by decide)) (by decide)) (x_clE e2 (show k1 < 432 from Nat.lt_of_lt_of_le g3 (by decide)) (by decide)) (by rw [(show (SH 415).1 = 20 by rw [sh415])]; rfl) ?_
  have w39 : HW (sI (sI (sI (sI (sI (sI (sI (sI (sI (sI h 405 k1 y) 406 k1 (if y = 7 then (0) else (z))) 407 k1 (if y = 5 then (u) else (if y = 6 then (u) else (0)))) 408 k1 (if y = 5 then (v) else (0))) 409 k1 0) 410 k1 0) 412 k1 0) 413 k1 0) 414 k1 0) 415 k1 0) := HW_sI w37
  refine e_ld (pc' := 107) i133_106 rfl rfl ?_
  refine e_get (w := .ref 416) (pc' := 110) i133_107 rfl (x_isC (by decide) w39.1 sh397) (x_fvR (by decide +kernel) (w39.2 397 20 416 lk397_20)) ?_
  refine e_ld (pc' := 111) i133_110 rfl rfl ?_
  refine e_cn (pc' := 112) i133_111 rfl ?_
  refine e_as (n := k1) (h' := sI (sI (sI (sI (sI (sI (sI (sI (sI (sI (sI h 405 k1 y) 406 k1 (if y = 7 then (0) else (z))) 407 k1 (if y = 5 then (u) else (if y = 6 then (u) else (0)))) 408 k1 (if y = 5 then (v) else (0))) 409 k1 0) 410 k1 0) 412 k1 0) 413 k1 0) 414 k1 0) 415 k1 0) 416 k1 0) (pc' := 113) i133_112 rfl (x_alE (a := 22) (by decide) w39.1 sh416 (by decide) e2 (show k1 < 432 from Nat.lt_of_lt_of_le g3 (by decide)) (by decide)) (x_clE e2 (show k1 < 432 from Nat.lt_of_lt_of_le g3 (by decide)) (by decide)) (by rw [(show (SH 416).1 = 22 by rw [sh416])]; rfl) ?_
  have w41 : HW (sI (sI (sI (sI (sI (sI (sI (sI (sI (sI (sI h 405 k1 y) 406 k1 (if y = 7 then (0) else (z))) 407 k1 (if y = 5 then (u) else (if y = 6 then (u) else (0)))) 408 k1 (if y = 5 then (v) else (0))) 409 k1 0) 410 k1 0) 412 k1 0) 413 k1 0) 414 k1 0) 415 k1 0) 416 k1 0) := HW_sI w39
  refine e_ld (pc' := 114) i133_113 rfl rfl ?_
  refine e_get (w := .ref 417) (pc' := 117) i133_114 rfl (x_isC (by decide) w41.1 sh397) (x_fvR (by decide +kernel) (w41.2 397 21 417 lk397_21)) ?_
  refine e_cn (pc' := 118) i133_117 rfl ?_
  refine e_ld (pc' := 119) i133_118 rfl rfl ?_
  refine e_ib (z := 2 * x) (pc' := 120) i133_119 rfl rfl ?_
  refine e_cn (pc' := 121) i133_120 rfl ?_
  obtain ⟨k31, e32, g33, H⟩ := H
  refine e_as (n := k31) (h' := sI (sI (sI (sI (sI (sI (sI (sI (sI (sI (sI (sI h 405 k1 y) 406 k1 (if y = 7 then (0) else (z))) 407 k1 (if y = 5 then (u) else (if y = 6 then (u) else (0)))) 408 k1 (if y = 5 then (v) else (0))) 409 k1 0) 410 k1 0) 412 k1 0) 413 k1 0) 414 k1 0) 415 k1 0) 416 k1 0) 417 k31 0) (pc' := 122) i133_121 rfl (x_alE (a := 20) (by decide) w41.1 sh417 (by decide) e32 g33 (by decide)) (x_clE e32 g33 (by decide)) (by rw [(show (SH 417).1 = 20 by rw [sh417])]; rfl) ?_
  have w46 : HW (sI (sI (sI (sI (sI (sI (sI (sI (sI (sI (sI (sI h 405 k1 y) 406 k1 (if y = 7 then (0) else (z))) 407 k1 (if y = 5 then (u) else (if y = 6 then (u) else (0)))) 408 k1 (if y = 5 then (v) else (0))) 409 k1 0) 410 k1 0) 412 k1 0) 413 k1 0) 414 k1 0) 415 k1 0) 416 k1 0) 417 k31 0) := HW_sI w41
  refine e_ld (pc' := 123) i133_122 rfl rfl ?_
  refine e_get (w := .ref 417) (pc' := 126) i133_123 rfl (x_isC (by decide) w46.1 sh397) (x_fvR (by decide +kernel) (w46.2 397 21 417 lk397_21)) ?_
  refine e_cn (pc' := 127) i133_126 rfl ?_
  refine e_ld (pc' := 128) i133_127 rfl rfl ?_
  refine e_ib (z := 2 * x) (pc' := 129) i133_128 rfl rfl ?_
  refine e_cn (pc' := 130) i133_129 rfl ?_
  refine e_ib (z := (2 * x) + 1) (pc' := 131) i133_130 rfl rfl ?_
  refine e_cn (pc' := 132) i133_131 rfl ?_
  obtain ⟨k35, e36, g37, H⟩ := H
  refine e_as (n := k35) (h' := sI (sI (sI (sI (sI (sI (sI (sI (sI (sI (sI (sI (sI h 405 k1 y) 406 k1 (if y = 7 then (0) else (z))) 407 k1 (if y = 5 then (u) else (if y = 6 then (u) else (0)))) 408 k1 (if y = 5 then (v) else (0))) 409 k1 0) 410 k1 0) 412 k1 0) 413 k1 0) 414 k1 0) 415 k1 0) 416 k1 0) 417 k31 0) 417 k35 0) (pc' := 133) i133_132 rfl (x_alE (a := 20) (by decide) w46.1 sh417 (by decide) e36 g37 (by decide)) (x_clE e36 g37 (by decide)) (by rw [(show (SH 417).1 = 20 by rw [sh417])]; rfl) ?_
  have w51 : HW (sI (sI (sI (sI (sI (sI (sI (sI (sI (sI (sI (sI (sI h 405 k1 y) 406 k1 (if y = 7 then (0) else (z))) 407 k1 (if y = 5 then (u) else (if y = 6 then (u) else (0)))) 408 k1 (if y = 5 then (v) else (0))) 409 k1 0) 410 k1 0) 412 k1 0) 413 k1 0) 414 k1 0) 415 k1 0) 416 k1 0) 417 k31 0) 417 k35 0) := HW_sI w46
  refine e_ld (pc' := 134) i133_133 rfl rfl ?_
  refine e_get (w := .ref 418) (pc' := 137) i133_134 rfl (x_isC (by decide) w51.1 sh397) (x_fvR (by decide +kernel) (w51.2 397 22 418 lk397_22)) ?_
  refine e_ld (pc' := 138) i133_137 rfl rfl ?_
  refine e_cn (pc' := 139) i133_138 rfl ?_
  refine e_as (n := k1) (h' := sI (sI (sI (sI (sI (sI (sI (sI (sI (sI (sI (sI (sI (sI h 405 k1 y) 406 k1 (if y = 7 then (0) else (z))) 407 k1 (if y = 5 then (u) else (if y = 6 then (u) else (0)))) 408 k1 (if y = 5 then (v) else (0))) 409 k1 0) 410 k1 0) 412 k1 0) 413 k1 0) 414 k1 0) 415 k1 0) 416 k1 0) 417 k31 0) 417 k35 0) 418 k1 3) (pc' := 140) i133_139 rfl (x_alE (a := 20) (by decide) w51.1 sh418 (by decide) e2 (show k1 < 432 from Nat.lt_of_lt_of_le g3 (by decide)) (by decide)) (x_clE e2 (show k1 < 432 from Nat.lt_of_lt_of_le g3 (by decide)) (by decide)) (by rw [(show (SH 418).1 = 20 by rw [sh418])]; rfl) ?_
  have w53 : HW (sI (sI (sI (sI (sI (sI (sI (sI (sI (sI (sI (sI (sI (sI h 405 k1 y) 406 k1 (if y = 7 then (0) else (z))) 407 k1 (if y = 5 then (u) else (if y = 6 then (u) else (0)))) 408 k1 (if y = 5 then (v) else (0))) 409 k1 0) 410 k1 0) 412 k1 0) 413 k1 0) 414 k1 0) 415 k1 0) 416 k1 0) 417 k31 0) 417 k35 0) 418 k1 3) := HW_sI w51
  refine e_ld (pc' := 141) i133_140 rfl rfl ?_
  refine e_get (w := .ref 419) (pc' := 144) i133_141 rfl (x_isC (by decide) w53.1 sh397) (x_fvR (by decide +kernel) (w53.2 397 23 419 lk397_23)) ?_
  refine e_ld (pc' := 145) i133_144 rfl rfl ?_
  refine e_cn (pc' := 146) i133_145 rfl ?_
  refine e_as (n := k1) (h' := sI (sI (sI (sI (sI (sI (sI (sI (sI (sI (sI (sI (sI (sI (sI h 405 k1 y) 406 k1 (if y = 7 then (0) else (z))) 407 k1 (if y = 5 then (u) else (if y = 6 then (u) else (0)))) 408 k1 (if y = 5 then (v) else (0))) 409 k1 0) 410 k1 0) 412 k1 0) 413 k1 0) 414 k1 0) 415 k1 0) 416 k1 0) 417 k31 0) 417 k35 0) 418 k1 3) 419 k1 3) (pc' := 147) i133_146 rfl (x_alE (a := 20) (by decide) w53.1 sh419 (by decide) e2 (show k1 < 432 from Nat.lt_of_lt_of_le g3 (by decide)) (by decide)) (x_clE e2 (show k1 < 432 from Nat.lt_of_lt_of_le g3 (by decide)) (by decide)) (by rw [(show (SH 419).1 = 20 by rw [sh419])]; rfl) ?_
  have w55 : HW (sI (sI (sI (sI (sI (sI (sI (sI (sI (sI (sI (sI (sI (sI (sI h 405 k1 y) 406 k1 (if y = 7 then (0) else (z))) 407 k1 (if y = 5 then (u) else (if y = 6 then (u) else (0)))) 408 k1 (if y = 5 then (v) else (0))) 409 k1 0) 410 k1 0) 412 k1 0) 413 k1 0) 414 k1 0) 415 k1 0) 416 k1 0) 417 k31 0) 417 k35 0) 418 k1 3) 419 k1 3) := HW_sI w53
  refine e_rt i133_147 rfl ?_
  exact H
-- FloorTurnModel.build(IIIII)I
set_option maxHeartbeats 8000000 in
set_option maxRecDepth 100000 in
theorem v134 {L : Nat} {xs : Nat → Int32} {Q : Option Value → Hp → Prop} {h : Hp} {x : Int32} {y : Int32} {z : Int32} {u : Int32} {v : Int32} (hw : HW h) 
  (H : ∃ (r2 : Int32), Sp L xs 132 [.ref 397, .int x, .int y, .int z, .int u, .int v] h (some (.int r2)) h ∧ ((0 ≤ r2) → (∃ (h5 : Hp), Sp L xs 133 [.ref 397, .int x, .int y, .int z, .int u, .int v] h none h5 ∧ Q (some (.int 1)) h5)) ∧ (¬ (0 ≤ r2) → (∃ (r11 : Int32) (h9 : Hp), Sp L xs 124 [.ref 397, .int r2] h (some (.int r11)) h9 ∧ Q (some (.int r11)) h9))) : ∃ r h', Sp L xs 134 [.ref 397, .int x, .int y, .int z, .int u, .int v] h r h' ∧ Q r h' := by
  refine sp_ex (ls := [some (.ref 397), some (.int x), some (.int y), some (.int z), some (.int u), some (.int v), none]) rfl ?_
  refine e_ld (pc' := 1) i134_0 rfl rfl ?_
  refine e_ld (pc' := 2) i134_1 rfl rfl ?_
  refine e_ld (pc' := 3) i134_2 rfl rfl ?_
  refine e_ld (pc' := 4) i134_3 rfl rfl ?_
  refine e_ld (pc' := 6) i134_4 rfl rfl ?_
  refine e_ld (pc' := 8) i134_6 rfl rfl ?_
  obtain ⟨r2, s1, H⟩ := H
  refine e_cI (w := .int r2) (As := [.ref 397, .int x, .int y, .int z, .int u, .int v]) (rest := []) (pc' := 11) i134_8 rfl rfl rfl rfl (by show (Nat.beq (x_kd 132) 0 && x_is 397 _ (MC 132) 0) = true; rw [show x_kd 132 = 0 by decide +kernel, show MC 132 = 11 by decide +kernel, (x_isC (by decide) hw.1 sh397)]; rfl) s1 ?_
  refine e_st (ls' := [some (.ref 397), some (.int x), some (.int y), some (.int z), some (.int u), some (.int v), some (.int r2)]) (pc' := 13) i134_11 rfl rfl rfl ?_
  refine e_ld (pc' := 15) i134_13 rfl rfl ?_
  refine e_if (pc' := 18) i134_15 rfl (fun c3 => ?_) (fun c3 => ?_)
  · have d4 : 0 ≤ r2 := (of_decide_eq_true c3)
    replace H := H.1 d4
    refine e_ld (pc' := 26) i134_25 rfl rfl ?_
    refine e_ld (pc' := 27) i134_26 rfl rfl ?_
    refine e_ld (pc' := 28) i134_27 rfl rfl ?_
    refine e_ld (pc' := 29) i134_28 rfl rfl ?_
    refine e_ld (pc' := 31) i134_29 rfl rfl ?_
    refine e_ld (pc' := 33) i134_31 rfl rfl ?_
    obtain ⟨h5, s6, H⟩ := H
    have w8q := HW_sp (show x_okm 133 = true by rfl) s6 hw
    have w8 : HW h5 := w8q.1
    refine e_cV (As := [.ref 397, .int x, .int y, .int z, .int u, .int v]) (rest := []) (pc' := 36) i134_33 rfl rfl rfl rfl (by show (Nat.beq (x_kd 133) 0 && x_is 397 _ (MC 133) 0) = true; rw [show x_kd 133 = 0 by decide +kernel, show MC 133 = 11 by decide +kernel, (x_isC (by decide) hw.1 sh397)]; rfl) s6 ?_
    refine e_cn (pc' := 37) i134_36 rfl ?_
    refine e_rt i134_37 rfl ?_
    exact H
  · have d8 : ¬ (0 ≤ r2) := (of_decide_eq_false c3)
    replace H := H.2 d8
    refine e_ld (pc' := 19) i134_18 rfl rfl ?_
    refine e_ld (pc' := 21) i134_19 rfl rfl ?_
    obtain ⟨r11, h9, s10, H⟩ := H
    have w13q := HW_sp (show x_okm 124 = true by rfl) s10 hw
    have w13 : HW h9 := w13q.1
    refine e_cI (w := .int r11) (As := [.ref 397, .int r2]) (rest := []) (pc' := 24) i134_21 rfl rfl rfl rfl (by show (Nat.beq (x_kd 124) 0 && x_is 397 _ (MC 124) 0) = true; rw [show x_kd 124 = 0 by decide +kernel, show MC 124 = 11 by decide +kernel, (x_isC (by decide) hw.1 sh397)]; rfl) s10 ?_
    refine e_rt i134_24 rfl ?_
    exact H
-- FloorTurnModel.raze(I)I
set_option maxHeartbeats 8000000 in
set_option maxRecDepth 100000 in
theorem v135 {L : Nat} {xs : Nat → Int32} {Q : Option Value → Hp → Prop} {h : Hp} {x : Int32} (hw : HW h) 
  (H : (((x_isCell x) = true) → (∃ k3 : Nat, x = nI k3 ∧ k3 < 144 ∧ Q (some (.int (gI h 405 k3))) (sI (sI h 405 k3 0) 412 k3 0))) ∧ (¬ ((x_isCell x) = true) → (∃ (r11 : Int32) (h9 : Hp), Sp L xs 124 [.ref 397, .int (-1)] h (some (.int r11)) h9 ∧ Q (some (.int r11)) h9))) : ∃ r h', Sp L xs 135 [.ref 397, .int x] h r h' ∧ Q r h' := by
  refine sp_ex (ls := [some (.ref 397), some (.int x), none]) rfl ?_
  refine e_ld (pc' := 1) i135_0 rfl rfl ?_
  refine e_cI (w := .int (b2i (x_isCell x))) (As := [.int x]) (rest := []) (pc' := 4) i135_1 rfl rfl rfl rfl rfl m125 ?_
  refine e_b1 (pc' := 7) i135_4 rfl (fun c1 => ?_) (fun c1 => ?_)
  · have d2 : (x_isCell x) = true := c1
    replace H := H.1 d2
    refine e_ld (pc' := 14) i135_13 rfl rfl ?_
    refine e_get (w := .ref 405) (pc' := 17) i135_14 rfl (x_isC (by decide) hw.1 sh397) (x_fvR (by decide +kernel) (hw.2 397 8 405 lk397_8)) ?_
    refine e_ld (pc' := 18) i135_17 rfl rfl ?_
    obtain ⟨k3, e4, g5, H⟩ := H
    refine e_al (n := k3) (w := .int (gI h 405 k3)) (pc' := 19) i135_18 rfl (x_alE (a := 20) (by decide) hw.1 sh405 (by decide) e4 g5 (by decide)) (x_clE e4 g5 (by decide)) rfl ?_
    refine e_st (ls' := [some (.ref 397), some (.int x), some (.int (gI h 405 k3))]) (pc' := 20) i135_19 rfl rfl rfl ?_
    refine e_ld (pc' := 21) i135_20 rfl rfl ?_
    refine e_get (w := .ref 405) (pc' := 24) i135_21 rfl (x_isC (by decide) hw.1 sh397) (x_fvR (by decide +kernel) (hw.2 397 8 405 lk397_8)) ?_
    refine e_ld (pc' := 25) i135_24 rfl rfl ?_
    refine e_cn (pc' := 26) i135_25 rfl ?_
    refine e_as (n := k3) (h' := sI h 405 k3 0) (pc' := 27) i135_26 rfl (x_alE (a := 20) (by decide) hw.1 sh405 (by decide) e4 g5 (by decide)) (x_clE e4 g5 (by decide)) (by rw [(show (SH 405).1 = 20 by rw [sh405])]; rfl) ?_
    have w7 : HW (sI h 405 k3 0) := HW_sI hw
    refine e_ld (pc' := 28) i135_27 rfl rfl ?_
    refine e_get (w := .ref 412) (pc' := 31) i135_28 rfl (x_isC (by decide) w7.1 sh397) (x_fvR (by decide +kernel) (w7.2 397 16 412 lk397_16)) ?_
    refine e_ld (pc' := 32) i135_31 rfl rfl ?_
    refine e_cn (pc' := 33) i135_32 rfl ?_
    refine e_as (n := k3) (h' := sI (sI h 405 k3 0) 412 k3 0) (pc' := 34) i135_33 rfl (x_alE (a := 20) (by decide) w7.1 sh412 (by decide) e4 (show k3 < 432 from Nat.lt_of_lt_of_le g5 (by decide)) (by decide)) (x_clE e4 (show k3 < 432 from Nat.lt_of_lt_of_le g5 (by decide)) (by decide)) (by rw [(show (SH 412).1 = 20 by rw [sh412])]; rfl) ?_
    have w9 : HW (sI (sI h 405 k3 0) 412 k3 0) := HW_sI w7
    refine e_ld (pc' := 35) i135_34 rfl rfl ?_
    refine e_rt i135_35 rfl ?_
    exact H
  · have d8 : ¬ ((x_isCell x) = true) := (show ¬ (x_isCell x) = true by rw [c1]; decide)
    replace H := H.2 d8
    refine e_ld (pc' := 8) i135_7 rfl rfl ?_
    refine e_cn (pc' := 9) i135_8 rfl ?_
    obtain ⟨r11, h9, s10, H⟩ := H
    have w13q := HW_sp (show x_okm 124 = true by rfl) s10 hw
    have w13 : HW h9 := w13q.1
    refine e_cI (w := .int r11) (As := [.ref 397, .int (-1)]) (rest := []) (pc' := 12) i135_9 rfl rfl rfl rfl (by show (Nat.beq (x_kd 124) 0 && x_is 397 _ (MC 124) 0) = true; rw [show x_kd 124 = 0 by decide +kernel, show MC 124 = 11 by decide +kernel, (x_isC (by decide) hw.1 sh397)]; rfl) s10 ?_
    refine e_rt i135_12 rfl ?_
    exact H
-- FloorTurnModel.isRow(I)Z
set_option maxHeartbeats 8000000 in
set_option maxRecDepth 100000 in
theorem v137 {L : Nat} {xs : Nat → Int32} {Q : Option Value → Hp → Prop} {h : Hp} {x : Int32} (hw : HW h) 
  (H : ∃ k1 : Nat, x = nI k1 ∧ k1 < 8 ∧ Q (some (.int (b2i (if (gI h 420 k1) < 100 then (false) else (true))))) h) : ∃ r h', Sp L xs 137 [.ref 397, .int x] h r h' ∧ Q r h' := by
  refine sp_ex (ls := [some (.ref 397), some (.int x)]) rfl ?_
  refine e_ld (pc' := 1) i137_0 rfl rfl ?_
  refine e_get (w := .ref 420) (pc' := 4) i137_1 rfl (x_isC (by decide) hw.1 sh397) (x_fvR (by decide +kernel) (hw.2 397 24 420 lk397_24)) ?_
  refine e_ld (pc' := 5) i137_4 rfl rfl ?_
  obtain ⟨k1, e2, g3, H⟩ := H
  refine e_al (n := k1) (w := .int (gI h 420 k1)) (pc' := 6) i137_5 rfl (x_alE (a := 20) (by decide) hw.1 sh420 (by decide) e2 g3 (by decide)) (x_clE e2 g3 (by decide)) rfl ?_
  refine e_cn (pc' := 8) i137_6 rfl ?_
  refine e_reg (pc' := 16) (ls' := [some (.ref 397), some (.int x)]) (st' := [.int (b2i (if (gI h 420 k1) < 100 then (false) else (true)))]) (fun kj4 => ?_) ?_
  · skip
    refine e_ic (pc' := 11) i137_8 rfl (fun c5 => ?_) (fun c5 => ?_)
    · have d6 : (gI h 420 k1) < 100 := (of_decide_eq_true c5)
      refine e_cn (pc' := 16) i137_15 rfl ?_
      exact (by simp only [if_pos d6] at kj4 ⊢; exact kj4)
    · have d7 : ¬ ((gI h 420 k1) < 100) := (of_decide_eq_false c5)
      refine e_cn (pc' := 12) i137_11 rfl ?_
      refine e_go i137_12 ?_
      exact (by simp only [if_neg d7] at kj4 ⊢; exact kj4)
  refine e_rt (r := some (.int (b2i (if (gI h 420 k1) < 100 then (false) else (true))))) i137_16 (by simp only [x_rt, show MR 137 = some .boolean by decide +kernel, b2i_01, cond_true]) ?_
  exact H
-- FloorTurnModel.row(III)I
set_option maxHeartbeats 8000000 in
set_option maxRecDepth 100000 in
theorem v139 {L : Nat} {xs : Nat → Int32} {Q : Option Value → Hp → Prop} {h : Hp} {x : Int32} {y : Int32} {z : Int32} (hw : HW h) 
  (H : (((x_isShelf x) = true) → (((0 ≤ z) → ((((x_in3 y 0 3) = true) → (((z ≤ 100) → (∃ k9 : Nat, x = nI k9 ∧ k9 < 8 ∧ WP L xs 139 73 [some (.ref 397), some (.int x), some (.int y), some (.int z), some (.int 0)] [] (sI (sI h 420 k9 (100 + y)) 421 k9 z) Q)) ∧ (¬ (z ≤ 100) → (∃ (r17 : Int32) (h15 : Hp), Sp L xs 124 [.ref 397, .int (-7)] h (some (.int r17)) h15 ∧ Q (some (.int r17)) h15)))) ∧ (¬ ((x_in3 y 0 3) = true) → (∃ (r22 : Int32) (h20 : Hp), Sp L xs 124 [.ref 397, .int (-6)] h (some (.int r22)) h20 ∧ Q (some (.int r22)) h20)))) ∧ (¬ (0 ≤ z) → (∃ (r27 : Int32) (h25 : Hp), Sp L xs 124 [.ref 397, .int (-4)] h (some (.int r27)) h25 ∧ Q (some (.int r27)) h25)))) ∧ (¬ ((x_isShelf x) = true) → (∃ (r32 : Int32) (h30 : Hp), Sp L xs 124 [.ref 397, .int (-1)] h (some (.int r32)) h30 ∧ Q (some (.int r32)) h30))) : ∃ r h', Sp L xs 139 [.ref 397, .int x, .int y, .int z] h r h' ∧ Q r h' := by
  refine sp_ex (ls := [some (.ref 397), some (.int x), some (.int y), some (.int z), none]) rfl ?_
  refine e_ld (pc' := 1) i139_0 rfl rfl ?_
  refine e_cI (w := .int (b2i (x_isShelf x))) (As := [.int x]) (rest := []) (pc' := 4) i139_1 rfl rfl rfl rfl rfl m136 ?_
  refine e_b1 (pc' := 7) i139_4 rfl (fun c1 => ?_) (fun c1 => ?_)
  · have d2 : (x_isShelf x) = true := c1
    replace H := H.1 d2
    refine e_ld (pc' := 14) i139_13 rfl rfl ?_
    refine e_if (pc' := 17) i139_14 rfl (fun c3 => ?_) (fun c3 => ?_)
    · have d4 : 0 ≤ z := (of_decide_eq_true c3)
      replace H := H.1 d4
      refine e_ld (pc' := 25) i139_24 rfl rfl ?_
      refine e_cn (pc' := 26) i139_25 rfl ?_
      refine e_cn (pc' := 27) i139_26 rfl ?_
      refine e_cI (w := .int (b2i (x_in3 y 0 3))) (As := [.int y, .int 0, .int 3]) (rest := []) (pc' := 30) i139_27 rfl rfl rfl rfl rfl m123 ?_
      refine e_b1 (pc' := 33) i139_30 rfl (fun c5 => ?_) (fun c5 => ?_)
      · have d6 : (x_in3 y 0 3) = true := c5
        replace H := H.1 d6
        refine e_ld (pc' := 41) i139_40 rfl rfl ?_
        refine e_cn (pc' := 43) i139_41 rfl ?_
        refine e_ic (pc' := 46) i139_43 rfl (fun c7 => ?_) (fun c7 => ?_)
        · have d8 : z ≤ 100 := (of_decide_eq_true c7)
          replace H := H.1 d8
          refine e_ld (pc' := 54) i139_53 rfl rfl ?_
          refine e_get (w := .ref 420) (pc' := 57) i139_54 rfl (x_isC (by decide) hw.1 sh397) (x_fvR (by decide +kernel) (hw.2 397 24 420 lk397_24)) ?_
          refine e_ld (pc' := 58) i139_57 rfl rfl ?_
          refine e_cn (pc' := 60) i139_58 rfl ?_
          refine e_ld (pc' := 61) i139_60 rfl rfl ?_
          refine e_ib (z := 100 + y) (pc' := 62) i139_61 rfl rfl ?_
          obtain ⟨k9, e10, g11, H⟩ := H
          refine e_as (n := k9) (h' := sI h 420 k9 (100 + y)) (pc' := 63) i139_62 rfl (x_alE (a := 20) (by decide) hw.1 sh420 (by decide) e10 g11 (by decide)) (x_clE e10 g11 (by decide)) (by rw [(show (SH 420).1 = 20 by rw [sh420])]; rfl) ?_
          have w13 : HW (sI h 420 k9 (100 + y)) := HW_sI hw
          refine e_ld (pc' := 64) i139_63 rfl rfl ?_
          refine e_get (w := .ref 421) (pc' := 67) i139_64 rfl (x_isC (by decide) w13.1 sh397) (x_fvR (by decide +kernel) (w13.2 397 25 421 lk397_25)) ?_
          refine e_ld (pc' := 68) i139_67 rfl rfl ?_
          refine e_ld (pc' := 69) i139_68 rfl rfl ?_
          refine e_as (n := k9) (h' := sI (sI h 420 k9 (100 + y)) 421 k9 z) (pc' := 70) i139_69 rfl (x_alE (a := 20) (by decide) w13.1 sh421 (by decide) e10 g11 (by decide)) (x_clE e10 g11 (by decide)) (by rw [(show (SH 421).1 = 20 by rw [sh421])]; rfl) ?_
          have w15 : HW (sI (sI h 420 k9 (100 + y)) 421 k9 z) := HW_sI w13
          refine e_cn (pc' := 71) i139_70 rfl ?_
          refine e_st (ls' := [some (.ref 397), some (.int x), some (.int y), some (.int z), some (.int 0)]) (pc' := 73) i139_71 rfl rfl rfl ?_
          exact H
        · have d14 : ¬ (z ≤ 100) := (of_decide_eq_false c7)
          replace H := H.2 d14
          refine e_ld (pc' := 47) i139_46 rfl rfl ?_
          refine e_cn (pc' := 49) i139_47 rfl ?_
          obtain ⟨r17, h15, s16, H⟩ := H
          have w19q := HW_sp (show x_okm 124 = true by rfl) s16 hw
          have w19 : HW h15 := w19q.1
          refine e_cI (w := .int r17) (As := [.ref 397, .int (-7)]) (rest := []) (pc' := 52) i139_49 rfl rfl rfl rfl (by show (Nat.beq (x_kd 124) 0 && x_is 397 _ (MC 124) 0) = true; rw [show x_kd 124 = 0 by decide +kernel, show MC 124 = 11 by decide +kernel, (x_isC (by decide) hw.1 sh397)]; rfl) s16 ?_
          refine e_rt i139_52 rfl ?_
          exact H
      · have d19 : ¬ ((x_in3 y 0 3) = true) := (show ¬ (x_in3 y 0 3) = true by rw [c5]; decide)
        replace H := H.2 d19
        refine e_ld (pc' := 34) i139_33 rfl rfl ?_
        refine e_cn (pc' := 36) i139_34 rfl ?_
        obtain ⟨r22, h20, s21, H⟩ := H
        have w24q := HW_sp (show x_okm 124 = true by rfl) s21 hw
        have w24 : HW h20 := w24q.1
        refine e_cI (w := .int r22) (As := [.ref 397, .int (-6)]) (rest := []) (pc' := 39) i139_36 rfl rfl rfl rfl (by show (Nat.beq (x_kd 124) 0 && x_is 397 _ (MC 124) 0) = true; rw [show x_kd 124 = 0 by decide +kernel, show MC 124 = 11 by decide +kernel, (x_isC (by decide) hw.1 sh397)]; rfl) s21 ?_
        refine e_rt i139_39 rfl ?_
        exact H
    · have d24 : ¬ (0 ≤ z) := (of_decide_eq_false c3)
      replace H := H.2 d24
      refine e_ld (pc' := 18) i139_17 rfl rfl ?_
      refine e_cn (pc' := 20) i139_18 rfl ?_
      obtain ⟨r27, h25, s26, H⟩ := H
      have w29q := HW_sp (show x_okm 124 = true by rfl) s26 hw
      have w29 : HW h25 := w29q.1
      refine e_cI (w := .int r27) (As := [.ref 397, .int (-4)]) (rest := []) (pc' := 23) i139_20 rfl rfl rfl rfl (by show (Nat.beq (x_kd 124) 0 && x_is 397 _ (MC 124) 0) = true; rw [show x_kd 124 = 0 by decide +kernel, show MC 124 = 11 by decide +kernel, (x_isC (by decide) hw.1 sh397)]; rfl) s26 ?_
      refine e_rt i139_23 rfl ?_
      exact H
  · have d29 : ¬ ((x_isShelf x) = true) := (show ¬ (x_isShelf x) = true by rw [c1]; decide)
    replace H := H.2 d29
    refine e_ld (pc' := 8) i139_7 rfl rfl ?_
    refine e_cn (pc' := 9) i139_8 rfl ?_
    obtain ⟨r32, h30, s31, H⟩ := H
    have w34q := HW_sp (show x_okm 124 = true by rfl) s31 hw
    have w34 : HW h30 := w34q.1
    refine e_cI (w := .int r32) (As := [.ref 397, .int (-1)]) (rest := []) (pc' := 12) i139_9 rfl rfl rfl rfl (by show (Nat.beq (x_kd 124) 0 && x_is 397 _ (MC 124) 0) = true; rw [show x_kd 124 = 0 by decide +kernel, show MC 124 = 11 by decide +kernel, (x_isC (by decide) hw.1 sh397)]; rfl) s31 ?_
    refine e_rt i139_12 rfl ?_
    exact H
set_option maxHeartbeats 8000000 in
set_option maxRecDepth 100000 in
theorem v139_73 {L : Nat} {xs : Nat → Int32} {Q : Option Value → Hp → Prop} {h : Hp} {l1 : Int32} {z2 : Option Value} {z3 : Option Value} {l4 : Int32} (hw : HW h)  (z3_z : x_wide (some z3) = false)
  (H : ((100 ≤ l4) → (Q (some (.int 1)) h)) ∧ (¬ (100 ≤ l4) → (∃ k4 : Nat, ((100 * l1) + l4) = nI k4 ∧ k4 < 800 ∧ WP L xs 139 73 [some (.ref 397), some (.int l1), z2, z3, some (.int (l4 + 1))] [] (sL h 422 k4 0) Q))) : WP L xs 139 73 [some (.ref 397), some (.int l1), z2, z3, some (.int l4)] [] h Q := by
  refine e_ld (pc' := 75) i139_73 rfl rfl ?_
  refine e_cn (pc' := 77) i139_75 rfl ?_
  refine e_ic (pc' := 80) i139_77 rfl (fun c1 => ?_) (fun c1 => ?_)
  · have d2 : 100 ≤ l4 := (of_decide_eq_true c1)
    replace H := H.1 d2
    refine e_cn (pc' := 100) i139_99 rfl ?_
    refine e_rt i139_100 rfl ?_
    exact H
  · have d3 : ¬ (100 ≤ l4) := (of_decide_eq_false c1)
    replace H := H.2 d3
    refine e_ld (pc' := 81) i139_80 rfl rfl ?_
    refine e_get (w := .ref 422) (pc' := 84) i139_81 rfl (x_isC (by decide) hw.1 sh397) (x_fvR (by decide +kernel) (hw.2 397 26 422 lk397_26)) ?_
    refine e_cn (pc' := 86) i139_84 rfl ?_
    refine e_ld (pc' := 87) i139_86 rfl rfl ?_
    refine e_ib (z := 100 * l1) (pc' := 88) i139_87 rfl rfl ?_
    refine e_ld (pc' := 90) i139_88 rfl rfl ?_
    refine e_ib (z := (100 * l1) + l4) (pc' := 91) i139_90 rfl rfl ?_
    refine e_cn (pc' := 92) i139_91 rfl ?_
    obtain ⟨k4, e5, g6, H⟩ := H
    refine e_as (n := k4) (h' := sL h 422 k4 0) (pc' := 93) i139_92 rfl (x_alE (a := 21) (by decide) hw.1 sh422 (by decide) e5 g6 (by decide)) (x_clE e5 g6 (by decide)) (by rw [(show (SH 422).1 = 21 by rw [sh422])]; rfl) ?_
    have w8 : HW (sL h 422 k4 0) := HW_sL hw
    refine e_inc (z := l4 + 1) (ls' := [some (.ref 397), some (.int l1), z2, z3, some (.int (l4 + 1))]) (pc' := 96) i139_93 rfl rfl rfl ((x_stz (a := 3) rfl z3_z rfl).trans rfl) ?_
    refine e_go i139_96 ?_
    exact H
-- FloorTurnModel.rowless(I)I
set_option maxHeartbeats 8000000 in
set_option maxRecDepth 100000 in
theorem v140 {L : Nat} {xs : Nat → Int32} {Q : Option Value → Hp → Prop} {h : Hp} {x : Int32} (hw : HW h) 
  (H : (((x_isShelf x) = true) → (∃ (r4 : Int32), Sp L xs 137 [.ref 397, .int x] h (some (.int r4)) h ∧ ((r4 = 0) → (∃ k7 : Nat, x = nI k7 ∧ k7 < 8 ∧ Q (some (.int (if (gI h 420 k7) = 0 then ((-2)) else ((-3))))) h)) ∧ (¬ (r4 = 0) → (Q (some (.int 0)) h)))) ∧ (¬ ((x_isShelf x) = true) → (Q (some (.int (-1))) h))) : ∃ r h', Sp L xs 140 [.ref 397, .int x] h r h' ∧ Q r h' := by
  refine sp_ex (ls := [some (.ref 397), some (.int x)]) rfl ?_
  refine e_ld (pc' := 1) i140_0 rfl rfl ?_
  refine e_cI (w := .int (b2i (x_isShelf x))) (As := [.int x]) (rest := []) (pc' := 4) i140_1 rfl rfl rfl rfl rfl m136 ?_
  refine e_b1 (pc' := 7) i140_4 rfl (fun c1 => ?_) (fun c1 => ?_)
  · have d2 : (x_isShelf x) = true := c1
    replace H := H.1 d2
    refine e_ld (pc' := 12) i140_11 rfl rfl ?_
    refine e_ld (pc' := 13) i140_12 rfl rfl ?_
    obtain ⟨r4, s3, H⟩ := H
    refine e_cI (w := .int r4) (As := [.ref 397, .int x]) (rest := []) (pc' := 16) i140_13 rfl rfl rfl rfl (by show (Nat.beq (x_kd 137) 0 && x_is 397 _ (MC 137) 0) = true; rw [show x_kd 137 = 0 by decide +kernel, show MC 137 = 11 by decide +kernel, (x_isC (by decide) hw.1 sh397)]; rfl) s3 ?_
    refine e_if (pc' := 19) i140_16 rfl (fun c5 => ?_) (fun c5 => ?_)
    · have d6 : r4 = 0 := (of_decide_eq_true c5)
      replace H := H.1 d6
      refine e_ld (pc' := 24) i140_23 rfl rfl ?_
      refine e_get (w := .ref 420) (pc' := 27) i140_24 rfl (x_isC (by decide) hw.1 sh397) (x_fvR (by decide +kernel) (hw.2 397 24 420 lk397_24)) ?_
      refine e_ld (pc' := 28) i140_27 rfl rfl ?_
      obtain ⟨k7, e8, g9, H⟩ := H
      refine e_al (n := k7) (w := .int (gI h 420 k7)) (pc' := 29) i140_28 rfl (x_alE (a := 20) (by decide) hw.1 sh420 (by decide) e8 g9 (by decide)) (x_clE e8 g9 (by decide)) rfl ?_
      refine e_reg (pc' := 39) (ls' := [some (.ref 397), some (.int x)]) (st' := [.int (if (gI h 420 k7) = 0 then ((-2)) else ((-3)))]) (fun kj10 => ?_) ?_
      · skip
        refine e_if (pc' := 32) i140_29 rfl (fun c11 => ?_) (fun c11 => ?_)
        · have d12 : ¬ ((gI h 420 k7) = 0) := (of_decide_eq_true c11)
          refine e_cn (pc' := 39) i140_37 rfl ?_
          exact (by simp only [if_neg d12] at kj10 ⊢; exact kj10)
        · have d13 : (gI h 420 k7) = 0 := (Decidable.not_not.mp (of_decide_eq_false c11))
          refine e_cn (pc' := 34) i140_32 rfl ?_
          refine e_go i140_34 ?_
          exact (by simp only [if_pos d13] at kj10 ⊢; exact kj10)
      refine e_rt i140_39 rfl ?_
      exact H
    · have d14 : ¬ (r4 = 0) := (of_decide_eq_false c5)
      replace H := H.2 d14
      refine e_cn (pc' := 20) i140_19 rfl ?_
      refine e_go i140_20 ?_
      refine e_rt i140_39 rfl ?_
      exact H
  · have d15 : ¬ ((x_isShelf x) = true) := (show ¬ (x_isShelf x) = true by rw [c1]; decide)
    replace H := H.2 d15
    refine e_cn (pc' := 8) i140_7 rfl ?_
    refine e_go i140_8 ?_
    refine e_rt i140_39 rfl ?_
    exact H
-- FloorTurnModel.set(IIJ)I
set_option maxHeartbeats 8000000 in
set_option maxRecDepth 100000 in
theorem v141 {L : Nat} {xs : Nat → Int32} {Q : Option Value → Hp → Prop} {h : Hp} {x : Int32} {y : Int32} {z : Int64} (hw : HW h) 
  (H : ∃ (r2 : Int32), Sp L xs 140 [.ref 397, .int x] h (some (.int r2)) h ∧ ((r2 = 0) → (∃ k5 : Nat, x = nI k5 ∧ k5 < 8 ∧ (((x_in3 y 0 ((gI h 421 k5) - 1)) = true) → (∃ k10 : Nat, ((100 * x) + y) = nI k10 ∧ k10 < 800 ∧ Q (some (.int 1)) (sL h 422 k10 (lws ((gI h 420 k5) - 100) z)))) ∧ (¬ ((x_in3 y 0 ((gI h 421 k5) - 1)) = true) → (∃ (r17 : Int32) (h15 : Hp), Sp L xs 124 [.ref 397, .int (-5)] h (some (.int r17)) h15 ∧ Q (some (.int r17)) h15)))) ∧ (¬ (r2 = 0) → (∃ (r22 : Int32) (h20 : Hp), Sp L xs 124 [.ref 397, .int r2] h (some (.int r22)) h20 ∧ Q (some (.int r22)) h20))) : ∃ r h', Sp L xs 141 [.ref 397, .int x, .int y, .long z] h r h' ∧ Q r h' := by
  refine sp_ex (ls := [some (.ref 397), some (.int x), some (.int y), some (.long z), none, none]) rfl ?_
  refine e_ld (pc' := 1) i141_0 rfl rfl ?_
  refine e_ld (pc' := 2) i141_1 rfl rfl ?_
  obtain ⟨r2, s1, H⟩ := H
  refine e_cI (w := .int r2) (As := [.ref 397, .int x]) (rest := []) (pc' := 5) i141_2 rfl rfl rfl rfl (by show (Nat.beq (x_kd 140) 0 && x_is 397 _ (MC 140) 0) = true; rw [show x_kd 140 = 0 by decide +kernel, show MC 140 = 11 by decide +kernel, (x_isC (by decide) hw.1 sh397)]; rfl) s1 ?_
  refine e_st (ls' := [some (.ref 397), some (.int x), some (.int y), some (.long z), none, some (.int r2)]) (pc' := 7) i141_5 rfl rfl rfl ?_
  refine e_ld (pc' := 9) i141_7 rfl rfl ?_
  refine e_if (pc' := 12) i141_9 rfl (fun c3 => ?_) (fun c3 => ?_)
  · have d4 : r2 = 0 := (of_decide_eq_true c3)
    replace H := H.1 d4
    refine e_ld (pc' := 20) i141_19 rfl rfl ?_
    refine e_cn (pc' := 21) i141_20 rfl ?_
    refine e_ld (pc' := 22) i141_21 rfl rfl ?_
    refine e_get (w := .ref 421) (pc' := 25) i141_22 rfl (x_isC (by decide) hw.1 sh397) (x_fvR (by decide +kernel) (hw.2 397 25 421 lk397_25)) ?_
    refine e_ld (pc' := 26) i141_25 rfl rfl ?_
    obtain ⟨k5, e6, g7, H⟩ := H
    refine e_al (n := k5) (w := .int (gI h 421 k5)) (pc' := 27) i141_26 rfl (x_alE (a := 20) (by decide) hw.1 sh421 (by decide) e6 g7 (by decide)) (x_clE e6 g7 (by decide)) rfl ?_
    refine e_cn (pc' := 28) i141_27 rfl ?_
    refine e_ib (z := (gI h 421 k5) - 1) (pc' := 29) i141_28 rfl rfl ?_
    refine e_cI (w := .int (b2i (x_in3 y 0 ((gI h 421 k5) - 1)))) (As := [.int y, .int 0, .int ((gI h 421 k5) - 1)]) (rest := []) (pc' := 32) i141_29 rfl rfl rfl rfl rfl m123 ?_
    refine e_b1 (pc' := 35) i141_32 rfl (fun c8 => ?_) (fun c8 => ?_)
    · have d9 : (x_in3 y 0 ((gI h 421 k5) - 1)) = true := c8
      replace H := H.1 d9
      refine e_ld (pc' := 43) i141_42 rfl rfl ?_
      refine e_get (w := .ref 422) (pc' := 46) i141_43 rfl (x_isC (by decide) hw.1 sh397) (x_fvR (by decide +kernel) (hw.2 397 26 422 lk397_26)) ?_
      refine e_cn (pc' := 48) i141_46 rfl ?_
      refine e_ld (pc' := 49) i141_48 rfl rfl ?_
      refine e_ib (z := 100 * x) (pc' := 50) i141_49 rfl rfl ?_
      refine e_ld (pc' := 51) i141_50 rfl rfl ?_
      refine e_ib (z := (100 * x) + y) (pc' := 52) i141_51 rfl rfl ?_
      refine e_ld (pc' := 53) i141_52 rfl rfl ?_
      refine e_get (w := .ref 420) (pc' := 56) i141_53 rfl (x_isC (by decide) hw.1 sh397) (x_fvR (by decide +kernel) (hw.2 397 24 420 lk397_24)) ?_
      refine e_ld (pc' := 57) i141_56 rfl rfl ?_
      refine e_al (n := k5) (w := .int (gI h 420 k5)) (pc' := 58) i141_57 rfl (x_alE (a := 20) (by decide) hw.1 sh420 (by decide) e6 g7 (by decide)) (x_clE e6 g7 (by decide)) rfl ?_
      refine e_cn (pc' := 60) i141_58 rfl ?_
      refine e_ib (z := (gI h 420 k5) - 100) (pc' := 61) i141_60 rfl rfl ?_
      refine e_ld (pc' := 62) i141_61 rfl rfl ?_
      refine e_cI (w := .long (lws ((gI h 420 k5) - 100) z)) (As := [.int ((gI h 420 k5) - 100), .long z]) (rest := [.int ((100 * x) + y), .ref 422]) (pc' := 65) i141_62 rfl rfl rfl rfl rfl m138 ?_
      obtain ⟨k10, e11, g12, H⟩ := H
      refine e_as (n := k10) (h' := sL h 422 k10 (lws ((gI h 420 k5) - 100) z)) (pc' := 66) i141_65 rfl (x_alE (a := 21) (by decide) hw.1 sh422 (by decide) e11 g12 (by decide)) (x_clE e11 g12 (by decide)) (by rw [(show (SH 422).1 = 21 by rw [sh422])]; rfl) ?_
      have w14 : HW (sL h 422 k10 (lws ((gI h 420 k5) - 100) z)) := HW_sL hw
      refine e_cn (pc' := 67) i141_66 rfl ?_
      refine e_rt i141_67 rfl ?_
      exact H
    · have d14 : ¬ ((x_in3 y 0 ((gI h 421 k5) - 1)) = true) := (show ¬ (x_in3 y 0 ((gI h 421 k5) - 1)) = true by rw [c8]; decide)
      replace H := H.2 d14
      refine e_ld (pc' := 36) i141_35 rfl rfl ?_
      refine e_cn (pc' := 38) i141_36 rfl ?_
      obtain ⟨r17, h15, s16, H⟩ := H
      have w19q := HW_sp (show x_okm 124 = true by rfl) s16 hw
      have w19 : HW h15 := w19q.1
      refine e_cI (w := .int r17) (As := [.ref 397, .int (-5)]) (rest := []) (pc' := 41) i141_38 rfl rfl rfl rfl (by show (Nat.beq (x_kd 124) 0 && x_is 397 _ (MC 124) 0) = true; rw [show x_kd 124 = 0 by decide +kernel, show MC 124 = 11 by decide +kernel, (x_isC (by decide) hw.1 sh397)]; rfl) s16 ?_
      refine e_rt i141_41 rfl ?_
      exact H
  · have d19 : ¬ (r2 = 0) := (of_decide_eq_false c3)
    replace H := H.2 d19
    refine e_ld (pc' := 13) i141_12 rfl rfl ?_
    refine e_ld (pc' := 15) i141_13 rfl rfl ?_
    obtain ⟨r22, h20, s21, H⟩ := H
    have w24q := HW_sp (show x_okm 124 = true by rfl) s21 hw
    have w24 : HW h20 := w24q.1
    refine e_cI (w := .int r22) (As := [.ref 397, .int r2]) (rest := []) (pc' := 18) i141_15 rfl rfl rfl rfl (by show (Nat.beq (x_kd 124) 0 && x_is 397 _ (MC 124) 0) = true; rw [show x_kd 124 = 0 by decide +kernel, show MC 124 = 11 by decide +kernel, (x_isC (by decide) hw.1 sh397)]; rfl) s21 ?_
    refine e_rt i141_18 rfl ?_
    exact H
-- FloorTurnModel.copy(IIIII)I
set_option maxHeartbeats 8000000 in
set_option maxRecDepth 100000 in
theorem v142 {L : Nat} {xs : Nat → Int32} {Q : Option Value → Hp → Prop} {h : Hp} {x : Int32} {y : Int32} {z : Int32} {u : Int32} {v : Int32} (hw : HW h) 
  (H : (((x_isShelf x) = true) → ((((x_isShelf y) = true) → (∃ k10 : Nat, x = nI k10 ∧ k10 < 8 ∧ (((gI h 420 k10) = 0) → (∃ (r17 : Int32) (h15 : Hp), Sp L xs 124 [.ref 397, .int (-2)] h (some (.int r17)) h15 ∧ Q (some (.int r17)) h15)) ∧ (¬ ((gI h 420 k10) = 0) → (∃ k20 : Nat, y = nI k20 ∧ k20 < 8 ∧ (((gI h 420 k20) = 0) → (∃ (r27 : Int32) (h25 : Hp), Sp L xs 124 [.ref 397, .int (-2)] h (some (.int r27)) h25 ∧ Q (some (.int r27)) h25)) ∧ (¬ ((gI h 420 k20) = 0) → (∃ (r31 : Int32), Sp L xs 137 [.ref 397, .int x] h (some (.int r31)) h ∧ ((r31 = 0) → (∃ (r35 : Int32), Sp L xs 137 [.ref 397, .int x] h (some (.int r35)) h ∧ ((r35 = 0) → (∃ (r40 : Int32) (h38 : Hp), Sp L xs 124 [.ref 397, .int (-3)] h (some (.int r40)) h38 ∧ Q (some (.int r40)) h38)) ∧ (¬ (r35 = 0) → (∃ (r44 : Int32), Sp L xs 137 [.ref 397, .int y] h (some (.int r44)) h ∧ ((r44 = 0) → (∃ (r99 : Int32) (h97 : Hp), Sp L xs 124 [.ref 397, .int (-3)] h (some (.int r99)) h97 ∧ Q (some (.int r99)) h97)) ∧ (¬ (r44 = 0) → (((0 ≤ v) → (((z < 0) → (∃ (r53 : Int32) (h51 : Hp), Sp L xs 124 [.ref 397, .int (-5)] h (some (.int r53)) h51 ∧ Q (some (.int r53)) h51)) ∧ (¬ (z < 0) → (((u < 0) → (∃ (r60 : Int32) (h58 : Hp), Sp L xs 124 [.ref 397, .int (-5)] h (some (.int r60)) h58 ∧ Q (some (.int r60)) h58)) ∧ (¬ (u < 0) → ((((gI h 421 k10) < z) → (∃ (r67 : Int32) (h65 : Hp), Sp L xs 124 [.ref 397, .int (-5)] h (some (.int r67)) h65 ∧ Q (some (.int r67)) h65)) ∧ (¬ ((gI h 421 k10) < z) → ((((gI h 421 k20) < u) → (∃ (r74 : Int32) (h72 : Hp), Sp L xs 124 [.ref 397, .int (-5)] h (some (.int r74)) h72 ∧ Q (some (.int r74)) h72)) ∧ (¬ ((gI h 421 k20) < u) → (((((gI h 421 k10) - z) < v) → (∃ (r81 : Int32) (h79 : Hp), Sp L xs 124 [.ref 397, .int (-5)] h (some (.int r81)) h79 ∧ Q (some (.int r81)) h79)) ∧ (¬ (((gI h 421 k10) - z) < v) → (((v ≤ ((gI h 421 k20) - u)) → (WP L xs 142 178 [some (.ref 397), some (.int x), some (.int y), some (.int z), some (.int u), some (.int v), some (.int 0)] [] h Q)) ∧ (¬ (v ≤ ((gI h 421 k20) - u)) → (∃ (r89 : Int32) (h87 : Hp), Sp L xs 124 [.ref 397, .int (-5)] h (some (.int r89)) h87 ∧ Q (some (.int r89)) h87)))))))))))))) ∧ (¬ (0 ≤ v) → (∃ (r94 : Int32) (h92 : Hp), Sp L xs 124 [.ref 397, .int (-4)] h (some (.int r94)) h92 ∧ Q (some (.int r94)) h92)))))))) ∧ (¬ (r31 = 0) → (∃ (r103 : Int32), Sp L xs 137 [.ref 397, .int y] h (some (.int r103)) h ∧ ((r103 = 0) → (∃ (r107 : Int32), Sp L xs 137 [.ref 397, .int x] h (some (.int r107)) h ∧ ((r107 = 0) → (∃ (r112 : Int32) (h110 : Hp), Sp L xs 124 [.ref 397, .int (-3)] h (some (.int r112)) h110 ∧ Q (some (.int r112)) h110)) ∧ (¬ (r107 = 0) → (∃ (r116 : Int32), Sp L xs 137 [.ref 397, .int y] h (some (.int r116)) h ∧ ((r116 = 0) → (∃ (r171 : Int32) (h169 : Hp), Sp L xs 124 [.ref 397, .int (-3)] h (some (.int r171)) h169 ∧ Q (some (.int r171)) h169)) ∧ (¬ (r116 = 0) → (((0 ≤ v) → (((z < 0) → (∃ (r125 : Int32) (h123 : Hp), Sp L xs 124 [.ref 397, .int (-5)] h (some (.int r125)) h123 ∧ Q (some (.int r125)) h123)) ∧ (¬ (z < 0) → (((u < 0) → (∃ (r132 : Int32) (h130 : Hp), Sp L xs 124 [.ref 397, .int (-5)] h (some (.int r132)) h130 ∧ Q (some (.int r132)) h130)) ∧ (¬ (u < 0) → ((((gI h 421 k10) < z) → (∃ (r139 : Int32) (h137 : Hp), Sp L xs 124 [.ref 397, .int (-5)] h (some (.int r139)) h137 ∧ Q (some (.int r139)) h137)) ∧ (¬ ((gI h 421 k10) < z) → ((((gI h 421 k20) < u) → (∃ (r146 : Int32) (h144 : Hp), Sp L xs 124 [.ref 397, .int (-5)] h (some (.int r146)) h144 ∧ Q (some (.int r146)) h144)) ∧ (¬ ((gI h 421 k20) < u) → (((((gI h 421 k10) - z) < v) → (∃ (r153 : Int32) (h151 : Hp), Sp L xs 124 [.ref 397, .int (-5)] h (some (.int r153)) h151 ∧ Q (some (.int r153)) h151)) ∧ (¬ (((gI h 421 k10) - z) < v) → (((v ≤ ((gI h 421 k20) - u)) → (WP L xs 142 178 [some (.ref 397), some (.int x), some (.int y), some (.int z), some (.int u), some (.int v), some (.int 0)] [] h Q)) ∧ (¬ (v ≤ ((gI h 421 k20) - u)) → (∃ (r161 : Int32) (h159 : Hp), Sp L xs 124 [.ref 397, .int (-5)] h (some (.int r161)) h159 ∧ Q (some (.int r161)) h159)))))))))))))) ∧ (¬ (0 ≤ v) → (∃ (r166 : Int32) (h164 : Hp), Sp L xs 124 [.ref 397, .int (-4)] h (some (.int r166)) h164 ∧ Q (some (.int r166)) h164)))))))) ∧ (¬ (r103 = 0) → ((((gI h 420 k10) = (gI h 420 k20)) → (∃ (r177 : Int32), Sp L xs 137 [.ref 397, .int x] h (some (.int r177)) h ∧ ((r177 = 0) → (∃ (r182 : Int32) (h180 : Hp), Sp L xs 124 [.ref 397, .int (-3)] h (some (.int r182)) h180 ∧ Q (some (.int r182)) h180)) ∧ (¬ (r177 = 0) → (∃ (r186 : Int32), Sp L xs 137 [.ref 397, .int y] h (some (.int r186)) h ∧ ((r186 = 0) → (∃ (r241 : Int32) (h239 : Hp), Sp L xs 124 [.ref 397, .int (-3)] h (some (.int r241)) h239 ∧ Q (some (.int r241)) h239)) ∧ (¬ (r186 = 0) → (((0 ≤ v) → (((z < 0) → (∃ (r195 : Int32) (h193 : Hp), Sp L xs 124 [.ref 397, .int (-5)] h (some (.int r195)) h193 ∧ Q (some (.int r195)) h193)) ∧ (¬ (z < 0) → (((u < 0) → (∃ (r202 : Int32) (h200 : Hp), Sp L xs 124 [.ref 397, .int (-5)] h (some (.int r202)) h200 ∧ Q (some (.int r202)) h200)) ∧ (¬ (u < 0) → ((((gI h 421 k10) < z) → (∃ (r209 : Int32) (h207 : Hp), Sp L xs 124 [.ref 397, .int (-5)] h (some (.int r209)) h207 ∧ Q (some (.int r209)) h207)) ∧ (¬ ((gI h 421 k10) < z) → ((((gI h 421 k20) < u) → (∃ (r216 : Int32) (h214 : Hp), Sp L xs 124 [.ref 397, .int (-5)] h (some (.int r216)) h214 ∧ Q (some (.int r216)) h214)) ∧ (¬ ((gI h 421 k20) < u) → (((((gI h 421 k10) - z) < v) → (∃ (r223 : Int32) (h221 : Hp), Sp L xs 124 [.ref 397, .int (-5)] h (some (.int r223)) h221 ∧ Q (some (.int r223)) h221)) ∧ (¬ (((gI h 421 k10) - z) < v) → (((v ≤ ((gI h 421 k20) - u)) → (WP L xs 142 178 [some (.ref 397), some (.int x), some (.int y), some (.int z), some (.int u), some (.int v), some (.int 0)] [] h Q)) ∧ (¬ (v ≤ ((gI h 421 k20) - u)) → (∃ (r231 : Int32) (h229 : Hp), Sp L xs 124 [.ref 397, .int (-5)] h (some (.int r231)) h229 ∧ Q (some (.int r231)) h229)))))))))))))) ∧ (¬ (0 ≤ v) → (∃ (r236 : Int32) (h234 : Hp), Sp L xs 124 [.ref 397, .int (-4)] h (some (.int r236)) h234 ∧ Q (some (.int r236)) h234)))))))) ∧ (¬ ((gI h 420 k10) = (gI h 420 k20)) → (∃ (r246 : Int32) (h244 : Hp), Sp L xs 124 [.ref 397, .int (-2)] h (some (.int r246)) h244 ∧ Q (some (.int r246)) h244)))))))))))) ∧ (¬ ((x_isShelf y) = true) → (∃ (r251 : Int32) (h249 : Hp), Sp L xs 124 [.ref 397, .int (-1)] h (some (.int r251)) h249 ∧ Q (some (.int r251)) h249)))) ∧ (¬ ((x_isShelf x) = true) → (∃ (r5 : Int32) (h3 : Hp), Sp L xs 124 [.ref 397, .int (-1)] h (some (.int r5)) h3 ∧ Q (some (.int r5)) h3))) : ∃ r h', Sp L xs 142 [.ref 397, .int x, .int y, .int z, .int u, .int v] h r h' ∧ Q r h' := by
  refine sp_ex (ls := [some (.ref 397), some (.int x), some (.int y), some (.int z), some (.int u), some (.int v), none]) rfl ?_
  refine e_ld (pc' := 1) i142_0 rfl rfl ?_
  refine e_cI (w := .int (b2i (x_isShelf x))) (As := [.int x]) (rest := []) (pc' := 4) i142_1 rfl rfl rfl rfl rfl m136 ?_
  refine e_b0 (pc' := 7) i142_4 rfl (fun c1 => ?_) (fun c1 => ?_)
  · have d2 : ¬ ((x_isShelf x) = true) := (show ¬ (x_isShelf x) = true by rw [c1]; decide)
    replace H := H.2 d2
    refine e_ld (pc' := 15) i142_14 rfl rfl ?_
    refine e_cn (pc' := 16) i142_15 rfl ?_
    obtain ⟨r5, h3, s4, H⟩ := H
    have w7q := HW_sp (show x_okm 124 = true by rfl) s4 hw
    have w7 : HW h3 := w7q.1
    refine e_cI (w := .int r5) (As := [.ref 397, .int (-1)]) (rest := []) (pc' := 19) i142_16 rfl rfl rfl rfl (by show (Nat.beq (x_kd 124) 0 && x_is 397 _ (MC 124) 0) = true; rw [show x_kd 124 = 0 by decide +kernel, show MC 124 = 11 by decide +kernel, (x_isC (by decide) hw.1 sh397)]; rfl) s4 ?_
    refine e_rt i142_19 rfl ?_
    exact H
  · have d7 : (x_isShelf x) = true := c1
    replace H := H.1 d7
    refine e_ld (pc' := 8) i142_7 rfl rfl ?_
    refine e_cI (w := .int (b2i (x_isShelf y))) (As := [.int y]) (rest := []) (pc' := 11) i142_8 rfl rfl rfl rfl rfl m136 ?_
    refine e_b1 (pc' := 14) i142_11 rfl (fun c8 => ?_) (fun c8 => ?_)
    · have d9 : (x_isShelf y) = true := c8
      replace H := H.1 d9
      refine e_ld (pc' := 21) i142_20 rfl rfl ?_
      refine e_get (w := .ref 420) (pc' := 24) i142_21 rfl (x_isC (by decide) hw.1 sh397) (x_fvR (by decide +kernel) (hw.2 397 24 420 lk397_24)) ?_
      refine e_ld (pc' := 25) i142_24 rfl rfl ?_
      obtain ⟨k10, e11, g12, H⟩ := H
      refine e_al (n := k10) (w := .int (gI h 420 k10)) (pc' := 26) i142_25 rfl (x_alE (a := 20) (by decide) hw.1 sh420 (by decide) e11 g12 (by decide)) (x_clE e11 g12 (by decide)) rfl ?_
      refine e_if (pc' := 29) i142_26 rfl (fun c13 => ?_) (fun c13 => ?_)
      · have d14 : (gI h 420 k10) = 0 := (of_decide_eq_true c13)
        replace H := H.1 d14
        refine e_ld (pc' := 70) i142_69 rfl rfl ?_
        refine e_cn (pc' := 72) i142_70 rfl ?_
        obtain ⟨r17, h15, s16, H⟩ := H
        have w19q := HW_sp (show x_okm 124 = true by rfl) s16 hw
        have w19 : HW h15 := w19q.1
        refine e_cI (w := .int r17) (As := [.ref 397, .int (-2)]) (rest := []) (pc' := 75) i142_72 rfl rfl rfl rfl (by show (Nat.beq (x_kd 124) 0 && x_is 397 _ (MC 124) 0) = true; rw [show x_kd 124 = 0 by decide +kernel, show MC 124 = 11 by decide +kernel, (x_isC (by decide) hw.1 sh397)]; rfl) s16 ?_
        refine e_rt i142_75 rfl ?_
        exact H
      · have d19 : ¬ ((gI h 420 k10) = 0) := (of_decide_eq_false c13)
        replace H := H.2 d19
        refine e_ld (pc' := 30) i142_29 rfl rfl ?_
        refine e_get (w := .ref 420) (pc' := 33) i142_30 rfl (x_isC (by decide) hw.1 sh397) (x_fvR (by decide +kernel) (hw.2 397 24 420 lk397_24)) ?_
        refine e_ld (pc' := 34) i142_33 rfl rfl ?_
        obtain ⟨k20, e21, g22, H⟩ := H
        refine e_al (n := k20) (w := .int (gI h 420 k20)) (pc' := 35) i142_34 rfl (x_alE (a := 20) (by decide) hw.1 sh420 (by decide) e21 g22 (by decide)) (x_clE e21 g22 (by decide)) rfl ?_
        refine e_if (pc' := 38) i142_35 rfl (fun c23 => ?_) (fun c23 => ?_)
        · have d24 : (gI h 420 k20) = 0 := (of_decide_eq_true c23)
          replace H := H.1 d24
          refine e_ld (pc' := 70) i142_69 rfl rfl ?_
          refine e_cn (pc' := 72) i142_70 rfl ?_
          obtain ⟨r27, h25, s26, H⟩ := H
          have w29q := HW_sp (show x_okm 124 = true by rfl) s26 hw
          have w29 : HW h25 := w29q.1
          refine e_cI (w := .int r27) (As := [.ref 397, .int (-2)]) (rest := []) (pc' := 75) i142_72 rfl rfl rfl rfl (by show (Nat.beq (x_kd 124) 0 && x_is 397 _ (MC 124) 0) = true; rw [show x_kd 124 = 0 by decide +kernel, show MC 124 = 11 by decide +kernel, (x_isC (by decide) hw.1 sh397)]; rfl) s26 ?_
          refine e_rt i142_75 rfl ?_
          exact H
        · have d29 : ¬ ((gI h 420 k20) = 0) := (of_decide_eq_false c23)
          replace H := H.2 d29
          refine e_ld (pc' := 39) i142_38 rfl rfl ?_
          refine e_ld (pc' := 40) i142_39 rfl rfl ?_
          obtain ⟨r31, s30, H⟩ := H
          refine e_cI (w := .int r31) (As := [.ref 397, .int x]) (rest := []) (pc' := 43) i142_40 rfl rfl rfl rfl (by show (Nat.beq (x_kd 137) 0 && x_is 397 _ (MC 137) 0) = true; rw [show x_kd 137 = 0 by decide +kernel, show MC 137 = 11 by decide +kernel, (x_isC (by decide) hw.1 sh397)]; rfl) s30 ?_
          refine e_if (pc' := 46) i142_43 rfl (fun c32 => ?_) (fun c32 => ?_)
          · have d33 : r31 = 0 := (of_decide_eq_true c32)
            replace H := H.1 d33
            refine e_ld (pc' := 77) i142_76 rfl rfl ?_
            refine e_ld (pc' := 78) i142_77 rfl rfl ?_
            obtain ⟨r35, s34, H⟩ := H
            refine e_cI (w := .int r35) (As := [.ref 397, .int x]) (rest := []) (pc' := 81) i142_78 rfl rfl rfl rfl (by show (Nat.beq (x_kd 137) 0 && x_is 397 _ (MC 137) 0) = true; rw [show x_kd 137 = 0 by decide +kernel, show MC 137 = 11 by decide +kernel, (x_isC (by decide) hw.1 sh397)]; rfl) s34 ?_
            refine e_if (pc' := 84) i142_81 rfl (fun c36 => ?_) (fun c36 => ?_)
            · have d37 : r35 = 0 := (of_decide_eq_true c36)
              replace H := H.1 d37
              refine e_ld (pc' := 93) i142_92 rfl rfl ?_
              refine e_cn (pc' := 95) i142_93 rfl ?_
              obtain ⟨r40, h38, s39, H⟩ := H
              have w42q := HW_sp (show x_okm 124 = true by rfl) s39 hw
              have w42 : HW h38 := w42q.1
              refine e_cI (w := .int r40) (As := [.ref 397, .int (-3)]) (rest := []) (pc' := 98) i142_95 rfl rfl rfl rfl (by show (Nat.beq (x_kd 124) 0 && x_is 397 _ (MC 124) 0) = true; rw [show x_kd 124 = 0 by decide +kernel, show MC 124 = 11 by decide +kernel, (x_isC (by decide) hw.1 sh397)]; rfl) s39 ?_
              refine e_rt i142_98 rfl ?_
              exact H
            · have d42 : ¬ (r35 = 0) := (of_decide_eq_false c36)
              replace H := H.2 d42
              refine e_ld (pc' := 85) i142_84 rfl rfl ?_
              refine e_ld (pc' := 86) i142_85 rfl rfl ?_
              obtain ⟨r44, s43, H⟩ := H
              refine e_cI (w := .int r44) (As := [.ref 397, .int y]) (rest := []) (pc' := 89) i142_86 rfl rfl rfl rfl (by show (Nat.beq (x_kd 137) 0 && x_is 397 _ (MC 137) 0) = true; rw [show x_kd 137 = 0 by decide +kernel, show MC 137 = 11 by decide +kernel, (x_isC (by decide) hw.1 sh397)]; rfl) s43 ?_
              refine e_if (pc' := 92) i142_89 rfl (fun c45 => ?_) (fun c45 => ?_)
              · have d46 : ¬ (r44 = 0) := (of_decide_eq_true c45)
                replace H := H.2 d46
                refine e_ld (pc' := 101) i142_99 rfl rfl ?_
                refine e_if (pc' := 104) i142_101 rfl (fun c47 => ?_) (fun c47 => ?_)
                · have d48 : 0 ≤ v := (of_decide_eq_true c47)
                  replace H := H.1 d48
                  refine e_ld (pc' := 112) i142_111 rfl rfl ?_
                  refine e_if (pc' := 115) i142_112 rfl (fun c49 => ?_) (fun c49 => ?_)
                  · have d50 : z < 0 := (of_decide_eq_true c49)
                    replace H := H.1 d50
                    refine e_ld (pc' := 169) i142_168 rfl rfl ?_
                    refine e_cn (pc' := 171) i142_169 rfl ?_
                    obtain ⟨r53, h51, s52, H⟩ := H
                    have w55q := HW_sp (show x_okm 124 = true by rfl) s52 hw
                    have w55 : HW h51 := w55q.1
                    refine e_cI (w := .int r53) (As := [.ref 397, .int (-5)]) (rest := []) (pc' := 174) i142_171 rfl rfl rfl rfl (by show (Nat.beq (x_kd 124) 0 && x_is 397 _ (MC 124) 0) = true; rw [show x_kd 124 = 0 by decide +kernel, show MC 124 = 11 by decide +kernel, (x_isC (by decide) hw.1 sh397)]; rfl) s52 ?_
                    refine e_rt i142_174 rfl ?_
                    exact H
                  · have d55 : ¬ (z < 0) := (of_decide_eq_false c49)
                    replace H := H.2 d55
                    refine e_ld (pc' := 117) i142_115 rfl rfl ?_
                    refine e_if (pc' := 120) i142_117 rfl (fun c56 => ?_) (fun c56 => ?_)
                    · have d57 : u < 0 := (of_decide_eq_true c56)
                      replace H := H.1 d57
                      refine e_ld (pc' := 169) i142_168 rfl rfl ?_
                      refine e_cn (pc' := 171) i142_169 rfl ?_
                      obtain ⟨r60, h58, s59, H⟩ := H
                      have w62q := HW_sp (show x_okm 124 = true by rfl) s59 hw
                      have w62 : HW h58 := w62q.1
                      refine e_cI (w := .int r60) (As := [.ref 397, .int (-5)]) (rest := []) (pc' := 174) i142_171 rfl rfl rfl rfl (by show (Nat.beq (x_kd 124) 0 && x_is 397 _ (MC 124) 0) = true; rw [show x_kd 124 = 0 by decide +kernel, show MC 124 = 11 by decide +kernel, (x_isC (by decide) hw.1 sh397)]; rfl) s59 ?_
                      refine e_rt i142_174 rfl ?_
                      exact H
                    · have d62 : ¬ (u < 0) := (of_decide_eq_false c56)
                      replace H := H.2 d62
                      refine e_ld (pc' := 121) i142_120 rfl rfl ?_
                      refine e_ld (pc' := 122) i142_121 rfl rfl ?_
                      refine e_get (w := .ref 421) (pc' := 125) i142_122 rfl (x_isC (by decide) hw.1 sh397) (x_fvR (by decide +kernel) (hw.2 397 25 421 lk397_25)) ?_
                      refine e_ld (pc' := 126) i142_125 rfl rfl ?_
                      refine e_al (n := k10) (w := .int (gI h 421 k10)) (pc' := 127) i142_126 rfl (x_alE (a := 20) (by decide) hw.1 sh421 (by decide) e11 g12 (by decide)) (x_clE e11 g12 (by decide)) rfl ?_
                      refine e_ic (pc' := 130) i142_127 rfl (fun c63 => ?_) (fun c63 => ?_)
                      · have d64 : (gI h 421 k10) < z := (of_decide_eq_true c63)
                        replace H := H.1 d64
                        refine e_ld (pc' := 169) i142_168 rfl rfl ?_
                        refine e_cn (pc' := 171) i142_169 rfl ?_
                        obtain ⟨r67, h65, s66, H⟩ := H
                        have w69q := HW_sp (show x_okm 124 = true by rfl) s66 hw
                        have w69 : HW h65 := w69q.1
                        refine e_cI (w := .int r67) (As := [.ref 397, .int (-5)]) (rest := []) (pc' := 174) i142_171 rfl rfl rfl rfl (by show (Nat.beq (x_kd 124) 0 && x_is 397 _ (MC 124) 0) = true; rw [show x_kd 124 = 0 by decide +kernel, show MC 124 = 11 by decide +kernel, (x_isC (by decide) hw.1 sh397)]; rfl) s66 ?_
                        refine e_rt i142_174 rfl ?_
                        exact H
                      · have d69 : ¬ ((gI h 421 k10) < z) := (of_decide_eq_false c63)
                        replace H := H.2 d69
                        refine e_ld (pc' := 132) i142_130 rfl rfl ?_
                        refine e_ld (pc' := 133) i142_132 rfl rfl ?_
                        refine e_get (w := .ref 421) (pc' := 136) i142_133 rfl (x_isC (by decide) hw.1 sh397) (x_fvR (by decide +kernel) (hw.2 397 25 421 lk397_25)) ?_
                        refine e_ld (pc' := 137) i142_136 rfl rfl ?_
                        refine e_al (n := k20) (w := .int (gI h 421 k20)) (pc' := 138) i142_137 rfl (x_alE (a := 20) (by decide) hw.1 sh421 (by decide) e21 g22 (by decide)) (x_clE e21 g22 (by decide)) rfl ?_
                        refine e_ic (pc' := 141) i142_138 rfl (fun c70 => ?_) (fun c70 => ?_)
                        · have d71 : (gI h 421 k20) < u := (of_decide_eq_true c70)
                          replace H := H.1 d71
                          refine e_ld (pc' := 169) i142_168 rfl rfl ?_
                          refine e_cn (pc' := 171) i142_169 rfl ?_
                          obtain ⟨r74, h72, s73, H⟩ := H
                          have w76q := HW_sp (show x_okm 124 = true by rfl) s73 hw
                          have w76 : HW h72 := w76q.1
                          refine e_cI (w := .int r74) (As := [.ref 397, .int (-5)]) (rest := []) (pc' := 174) i142_171 rfl rfl rfl rfl (by show (Nat.beq (x_kd 124) 0 && x_is 397 _ (MC 124) 0) = true; rw [show x_kd 124 = 0 by decide +kernel, show MC 124 = 11 by decide +kernel, (x_isC (by decide) hw.1 sh397)]; rfl) s73 ?_
                          refine e_rt i142_174 rfl ?_
                          exact H
                        · have d76 : ¬ ((gI h 421 k20) < u) := (of_decide_eq_false c70)
                          replace H := H.2 d76
                          refine e_ld (pc' := 143) i142_141 rfl rfl ?_
                          refine e_ld (pc' := 144) i142_143 rfl rfl ?_
                          refine e_get (w := .ref 421) (pc' := 147) i142_144 rfl (x_isC (by decide) hw.1 sh397) (x_fvR (by decide +kernel) (hw.2 397 25 421 lk397_25)) ?_
                          refine e_ld (pc' := 148) i142_147 rfl rfl ?_
                          refine e_al (n := k10) (w := .int (gI h 421 k10)) (pc' := 149) i142_148 rfl (x_alE (a := 20) (by decide) hw.1 sh421 (by decide) e11 g12 (by decide)) (x_clE e11 g12 (by decide)) rfl ?_
                          refine e_ld (pc' := 150) i142_149 rfl rfl ?_
                          refine e_ib (z := (gI h 421 k10) - z) (pc' := 151) i142_150 rfl rfl ?_
                          refine e_ic (pc' := 154) i142_151 rfl (fun c77 => ?_) (fun c77 => ?_)
                          · have d78 : ((gI h 421 k10) - z) < v := (of_decide_eq_true c77)
                            replace H := H.1 d78
                            refine e_ld (pc' := 169) i142_168 rfl rfl ?_
                            refine e_cn (pc' := 171) i142_169 rfl ?_
                            obtain ⟨r81, h79, s80, H⟩ := H
                            have w83q := HW_sp (show x_okm 124 = true by rfl) s80 hw
                            have w83 : HW h79 := w83q.1
                            refine e_cI (w := .int r81) (As := [.ref 397, .int (-5)]) (rest := []) (pc' := 174) i142_171 rfl rfl rfl rfl (by show (Nat.beq (x_kd 124) 0 && x_is 397 _ (MC 124) 0) = true; rw [show x_kd 124 = 0 by decide +kernel, show MC 124 = 11 by decide +kernel, (x_isC (by decide) hw.1 sh397)]; rfl) s80 ?_
                            refine e_rt i142_174 rfl ?_
                            exact H
                          · have d83 : ¬ (((gI h 421 k10) - z) < v) := (of_decide_eq_false c77)
                            replace H := H.2 d83
                            refine e_ld (pc' := 156) i142_154 rfl rfl ?_
                            refine e_ld (pc' := 157) i142_156 rfl rfl ?_
                            refine e_get (w := .ref 421) (pc' := 160) i142_157 rfl (x_isC (by decide) hw.1 sh397) (x_fvR (by decide +kernel) (hw.2 397 25 421 lk397_25)) ?_
                            refine e_ld (pc' := 161) i142_160 rfl rfl ?_
                            refine e_al (n := k20) (w := .int (gI h 421 k20)) (pc' := 162) i142_161 rfl (x_alE (a := 20) (by decide) hw.1 sh421 (by decide) e21 g22 (by decide)) (x_clE e21 g22 (by decide)) rfl ?_
                            refine e_ld (pc' := 164) i142_162 rfl rfl ?_
                            refine e_ib (z := (gI h 421 k20) - u) (pc' := 165) i142_164 rfl rfl ?_
                            refine e_ic (pc' := 168) i142_165 rfl (fun c84 => ?_) (fun c84 => ?_)
                            · have d85 : v ≤ ((gI h 421 k20) - u) := (of_decide_eq_true c84)
                              replace H := H.1 d85
                              refine e_cn (pc' := 176) i142_175 rfl ?_
                              refine e_st (ls' := [some (.ref 397), some (.int x), some (.int y), some (.int z), some (.int u), some (.int v), some (.int 0)]) (pc' := 178) i142_176 rfl rfl rfl ?_
                              exact H
                            · have d86 : ¬ (v ≤ ((gI h 421 k20) - u)) := (of_decide_eq_false c84)
                              replace H := H.2 d86
                              refine e_ld (pc' := 169) i142_168 rfl rfl ?_
                              refine e_cn (pc' := 171) i142_169 rfl ?_
                              obtain ⟨r89, h87, s88, H⟩ := H
                              have w91q := HW_sp (show x_okm 124 = true by rfl) s88 hw
                              have w91 : HW h87 := w91q.1
                              refine e_cI (w := .int r89) (As := [.ref 397, .int (-5)]) (rest := []) (pc' := 174) i142_171 rfl rfl rfl rfl (by show (Nat.beq (x_kd 124) 0 && x_is 397 _ (MC 124) 0) = true; rw [show x_kd 124 = 0 by decide +kernel, show MC 124 = 11 by decide +kernel, (x_isC (by decide) hw.1 sh397)]; rfl) s88 ?_
                              refine e_rt i142_174 rfl ?_
                              exact H
                · have d91 : ¬ (0 ≤ v) := (of_decide_eq_false c47)
                  replace H := H.2 d91
                  refine e_ld (pc' := 105) i142_104 rfl rfl ?_
                  refine e_cn (pc' := 107) i142_105 rfl ?_
                  obtain ⟨r94, h92, s93, H⟩ := H
                  have w96q := HW_sp (show x_okm 124 = true by rfl) s93 hw
                  have w96 : HW h92 := w96q.1
                  refine e_cI (w := .int r94) (As := [.ref 397, .int (-4)]) (rest := []) (pc' := 110) i142_107 rfl rfl rfl rfl (by show (Nat.beq (x_kd 124) 0 && x_is 397 _ (MC 124) 0) = true; rw [show x_kd 124 = 0 by decide +kernel, show MC 124 = 11 by decide +kernel, (x_isC (by decide) hw.1 sh397)]; rfl) s93 ?_
                  refine e_rt i142_110 rfl ?_
                  exact H
              · have d96 : r44 = 0 := (Decidable.not_not.mp (of_decide_eq_false c45))
                replace H := H.1 d96
                refine e_ld (pc' := 93) i142_92 rfl rfl ?_
                refine e_cn (pc' := 95) i142_93 rfl ?_
                obtain ⟨r99, h97, s98, H⟩ := H
                have w101q := HW_sp (show x_okm 124 = true by rfl) s98 hw
                have w101 : HW h97 := w101q.1
                refine e_cI (w := .int r99) (As := [.ref 397, .int (-3)]) (rest := []) (pc' := 98) i142_95 rfl rfl rfl rfl (by show (Nat.beq (x_kd 124) 0 && x_is 397 _ (MC 124) 0) = true; rw [show x_kd 124 = 0 by decide +kernel, show MC 124 = 11 by decide +kernel, (x_isC (by decide) hw.1 sh397)]; rfl) s98 ?_
                refine e_rt i142_98 rfl ?_
                exact H
          · have d101 : ¬ (r31 = 0) := (of_decide_eq_false c32)
            replace H := H.2 d101
            refine e_ld (pc' := 47) i142_46 rfl rfl ?_
            refine e_ld (pc' := 48) i142_47 rfl rfl ?_
            obtain ⟨r103, s102, H⟩ := H
            refine e_cI (w := .int r103) (As := [.ref 397, .int y]) (rest := []) (pc' := 51) i142_48 rfl rfl rfl rfl (by show (Nat.beq (x_kd 137) 0 && x_is 397 _ (MC 137) 0) = true; rw [show x_kd 137 = 0 by decide +kernel, show MC 137 = 11 by decide +kernel, (x_isC (by decide) hw.1 sh397)]; rfl) s102 ?_
            refine e_if (pc' := 54) i142_51 rfl (fun c104 => ?_) (fun c104 => ?_)
            · have d105 : r103 = 0 := (of_decide_eq_true c104)
              replace H := H.1 d105
              refine e_ld (pc' := 77) i142_76 rfl rfl ?_
              refine e_ld (pc' := 78) i142_77 rfl rfl ?_
              obtain ⟨r107, s106, H⟩ := H
              refine e_cI (w := .int r107) (As := [.ref 397, .int x]) (rest := []) (pc' := 81) i142_78 rfl rfl rfl rfl (by show (Nat.beq (x_kd 137) 0 && x_is 397 _ (MC 137) 0) = true; rw [show x_kd 137 = 0 by decide +kernel, show MC 137 = 11 by decide +kernel, (x_isC (by decide) hw.1 sh397)]; rfl) s106 ?_
              refine e_if (pc' := 84) i142_81 rfl (fun c108 => ?_) (fun c108 => ?_)
              · have d109 : r107 = 0 := (of_decide_eq_true c108)
                replace H := H.1 d109
                refine e_ld (pc' := 93) i142_92 rfl rfl ?_
                refine e_cn (pc' := 95) i142_93 rfl ?_
                obtain ⟨r112, h110, s111, H⟩ := H
                have w114q := HW_sp (show x_okm 124 = true by rfl) s111 hw
                have w114 : HW h110 := w114q.1
                refine e_cI (w := .int r112) (As := [.ref 397, .int (-3)]) (rest := []) (pc' := 98) i142_95 rfl rfl rfl rfl (by show (Nat.beq (x_kd 124) 0 && x_is 397 _ (MC 124) 0) = true; rw [show x_kd 124 = 0 by decide +kernel, show MC 124 = 11 by decide +kernel, (x_isC (by decide) hw.1 sh397)]; rfl) s111 ?_
                refine e_rt i142_98 rfl ?_
                exact H
              · have d114 : ¬ (r107 = 0) := (of_decide_eq_false c108)
                replace H := H.2 d114
                refine e_ld (pc' := 85) i142_84 rfl rfl ?_
                refine e_ld (pc' := 86) i142_85 rfl rfl ?_
                obtain ⟨r116, s115, H⟩ := H
                refine e_cI (w := .int r116) (As := [.ref 397, .int y]) (rest := []) (pc' := 89) i142_86 rfl rfl rfl rfl (by show (Nat.beq (x_kd 137) 0 && x_is 397 _ (MC 137) 0) = true; rw [show x_kd 137 = 0 by decide +kernel, show MC 137 = 11 by decide +kernel, (x_isC (by decide) hw.1 sh397)]; rfl) s115 ?_
                refine e_if (pc' := 92) i142_89 rfl (fun c117 => ?_) (fun c117 => ?_)
                · have d118 : ¬ (r116 = 0) := (of_decide_eq_true c117)
                  replace H := H.2 d118
                  refine e_ld (pc' := 101) i142_99 rfl rfl ?_
                  refine e_if (pc' := 104) i142_101 rfl (fun c119 => ?_) (fun c119 => ?_)
                  · have d120 : 0 ≤ v := (of_decide_eq_true c119)
                    replace H := H.1 d120
                    refine e_ld (pc' := 112) i142_111 rfl rfl ?_
                    refine e_if (pc' := 115) i142_112 rfl (fun c121 => ?_) (fun c121 => ?_)
                    · have d122 : z < 0 := (of_decide_eq_true c121)
                      replace H := H.1 d122
                      refine e_ld (pc' := 169) i142_168 rfl rfl ?_
                      refine e_cn (pc' := 171) i142_169 rfl ?_
                      obtain ⟨r125, h123, s124, H⟩ := H
                      have w127q := HW_sp (show x_okm 124 = true by rfl) s124 hw
                      have w127 : HW h123 := w127q.1
                      refine e_cI (w := .int r125) (As := [.ref 397, .int (-5)]) (rest := []) (pc' := 174) i142_171 rfl rfl rfl rfl (by show (Nat.beq (x_kd 124) 0 && x_is 397 _ (MC 124) 0) = true; rw [show x_kd 124 = 0 by decide +kernel, show MC 124 = 11 by decide +kernel, (x_isC (by decide) hw.1 sh397)]; rfl) s124 ?_
                      refine e_rt i142_174 rfl ?_
                      exact H
                    · have d127 : ¬ (z < 0) := (of_decide_eq_false c121)
                      replace H := H.2 d127
                      refine e_ld (pc' := 117) i142_115 rfl rfl ?_
                      refine e_if (pc' := 120) i142_117 rfl (fun c128 => ?_) (fun c128 => ?_)
                      · have d129 : u < 0 := (of_decide_eq_true c128)
                        replace H := H.1 d129
                        refine e_ld (pc' := 169) i142_168 rfl rfl ?_
                        refine e_cn (pc' := 171) i142_169 rfl ?_
                        obtain ⟨r132, h130, s131, H⟩ := H
                        have w134q := HW_sp (show x_okm 124 = true by rfl) s131 hw
                        have w134 : HW h130 := w134q.1
                        refine e_cI (w := .int r132) (As := [.ref 397, .int (-5)]) (rest := []) (pc' := 174) i142_171 rfl rfl rfl rfl (by show (Nat.beq (x_kd 124) 0 && x_is 397 _ (MC 124) 0) = true; rw [show x_kd 124 = 0 by decide +kernel, show MC 124 = 11 by decide +kernel, (x_isC (by decide) hw.1 sh397)]; rfl) s131 ?_
                        refine e_rt i142_174 rfl ?_
                        exact H
                      · have d134 : ¬ (u < 0) := (of_decide_eq_false c128)
                        replace H := H.2 d134
                        refine e_ld (pc' := 121) i142_120 rfl rfl ?_
                        refine e_ld (pc' := 122) i142_121 rfl rfl ?_
                        refine e_get (w := .ref 421) (pc' := 125) i142_122 rfl (x_isC (by decide) hw.1 sh397) (x_fvR (by decide +kernel) (hw.2 397 25 421 lk397_25)) ?_
                        refine e_ld (pc' := 126) i142_125 rfl rfl ?_
                        refine e_al (n := k10) (w := .int (gI h 421 k10)) (pc' := 127) i142_126 rfl (x_alE (a := 20) (by decide) hw.1 sh421 (by decide) e11 g12 (by decide)) (x_clE e11 g12 (by decide)) rfl ?_
                        refine e_ic (pc' := 130) i142_127 rfl (fun c135 => ?_) (fun c135 => ?_)
                        · have d136 : (gI h 421 k10) < z := (of_decide_eq_true c135)
                          replace H := H.1 d136
                          refine e_ld (pc' := 169) i142_168 rfl rfl ?_
                          refine e_cn (pc' := 171) i142_169 rfl ?_
                          obtain ⟨r139, h137, s138, H⟩ := H
                          have w141q := HW_sp (show x_okm 124 = true by rfl) s138 hw
                          have w141 : HW h137 := w141q.1
                          refine e_cI (w := .int r139) (As := [.ref 397, .int (-5)]) (rest := []) (pc' := 174) i142_171 rfl rfl rfl rfl (by show (Nat.beq (x_kd 124) 0 && x_is 397 _ (MC 124) 0) = true; rw [show x_kd 124 = 0 by decide +kernel, show MC 124 = 11 by decide +kernel, (x_isC (by decide) hw.1 sh397)]; rfl) s138 ?_
                          refine e_rt i142_174 rfl ?_
                          exact H
                        · have d141 : ¬ ((gI h 421 k10) < z) := (of_decide_eq_false c135)
                          replace H := H.2 d141
                          refine e_ld (pc' := 132) i142_130 rfl rfl ?_
                          refine e_ld (pc' := 133) i142_132 rfl rfl ?_
                          refine e_get (w := .ref 421) (pc' := 136) i142_133 rfl (x_isC (by decide) hw.1 sh397) (x_fvR (by decide +kernel) (hw.2 397 25 421 lk397_25)) ?_
                          refine e_ld (pc' := 137) i142_136 rfl rfl ?_
                          refine e_al (n := k20) (w := .int (gI h 421 k20)) (pc' := 138) i142_137 rfl (x_alE (a := 20) (by decide) hw.1 sh421 (by decide) e21 g22 (by decide)) (x_clE e21 g22 (by decide)) rfl ?_
                          refine e_ic (pc' := 141) i142_138 rfl (fun c142 => ?_) (fun c142 => ?_)
                          · have d143 : (gI h 421 k20) < u := (of_decide_eq_true c142)
                            replace H := H.1 d143
                            refine e_ld (pc' := 169) i142_168 rfl rfl ?_
                            refine e_cn (pc' := 171) i142_169 rfl ?_
                            obtain ⟨r146, h144, s145, H⟩ := H
                            have w148q := HW_sp (show x_okm 124 = true by rfl) s145 hw
                            have w148 : HW h144 := w148q.1
                            refine e_cI (w := .int r146) (As := [.ref 397, .int (-5)]) (rest := []) (pc' := 174) i142_171 rfl rfl rfl rfl (by show (Nat.beq (x_kd 124) 0 && x_is 397 _ (MC 124) 0) = true; rw [show x_kd 124 = 0 by decide +kernel, show MC 124 = 11 by decide +kernel, (x_isC (by decide) hw.1 sh397)]; rfl) s145 ?_
                            refine e_rt i142_174 rfl ?_
                            exact H
                          · have d148 : ¬ ((gI h 421 k20) < u) := (of_decide_eq_false c142)
                            replace H := H.2 d148
                            refine e_ld (pc' := 143) i142_141 rfl rfl ?_
                            refine e_ld (pc' := 144) i142_143 rfl rfl ?_
                            refine e_get (w := .ref 421) (pc' := 147) i142_144 rfl (x_isC (by decide) hw.1 sh397) (x_fvR (by decide +kernel) (hw.2 397 25 421 lk397_25)) ?_
                            refine e_ld (pc' := 148) i142_147 rfl rfl ?_
                            refine e_al (n := k10) (w := .int (gI h 421 k10)) (pc' := 149) i142_148 rfl (x_alE (a := 20) (by decide) hw.1 sh421 (by decide) e11 g12 (by decide)) (x_clE e11 g12 (by decide)) rfl ?_
                            refine e_ld (pc' := 150) i142_149 rfl rfl ?_
                            refine e_ib (z := (gI h 421 k10) - z) (pc' := 151) i142_150 rfl rfl ?_
                            refine e_ic (pc' := 154) i142_151 rfl (fun c149 => ?_) (fun c149 => ?_)
                            · have d150 : ((gI h 421 k10) - z) < v := (of_decide_eq_true c149)
                              replace H := H.1 d150
                              refine e_ld (pc' := 169) i142_168 rfl rfl ?_
                              refine e_cn (pc' := 171) i142_169 rfl ?_
                              obtain ⟨r153, h151, s152, H⟩ := H
                              have w155q := HW_sp (show x_okm 124 = true by rfl) s152 hw
                              have w155 : HW h151 := w155q.1
                              refine e_cI (w := .int r153) (As := [.ref 397, .int (-5)]) (rest := []) (pc' := 174) i142_171 rfl rfl rfl rfl (by show (Nat.beq (x_kd 124) 0 && x_is 397 _ (MC 124) 0) = true; rw [show x_kd 124 = 0 by decide +kernel, show MC 124 = 11 by decide +kernel, (x_isC (by decide) hw.1 sh397)]; rfl) s152 ?_
                              refine e_rt i142_174 rfl ?_
                              exact H
                            · have d155 : ¬ (((gI h 421 k10) - z) < v) := (of_decide_eq_false c149)
                              replace H := H.2 d155
                              refine e_ld (pc' := 156) i142_154 rfl rfl ?_
                              refine e_ld (pc' := 157) i142_156 rfl rfl ?_
                              refine e_get (w := .ref 421) (pc' := 160) i142_157 rfl (x_isC (by decide) hw.1 sh397) (x_fvR (by decide +kernel) (hw.2 397 25 421 lk397_25)) ?_
                              refine e_ld (pc' := 161) i142_160 rfl rfl ?_
                              refine e_al (n := k20) (w := .int (gI h 421 k20)) (pc' := 162) i142_161 rfl (x_alE (a := 20) (by decide) hw.1 sh421 (by decide) e21 g22 (by decide)) (x_clE e21 g22 (by decide)) rfl ?_
                              refine e_ld (pc' := 164) i142_162 rfl rfl ?_
                              refine e_ib (z := (gI h 421 k20) - u) (pc' := 165) i142_164 rfl rfl ?_
                              refine e_ic (pc' := 168) i142_165 rfl (fun c156 => ?_) (fun c156 => ?_)
                              · have d157 : v ≤ ((gI h 421 k20) - u) := (of_decide_eq_true c156)
                                replace H := H.1 d157
                                refine e_cn (pc' := 176) i142_175 rfl ?_
                                refine e_st (ls' := [some (.ref 397), some (.int x), some (.int y), some (.int z), some (.int u), some (.int v), some (.int 0)]) (pc' := 178) i142_176 rfl rfl rfl ?_
                                exact H
                              · have d158 : ¬ (v ≤ ((gI h 421 k20) - u)) := (of_decide_eq_false c156)
                                replace H := H.2 d158
                                refine e_ld (pc' := 169) i142_168 rfl rfl ?_
                                refine e_cn (pc' := 171) i142_169 rfl ?_
                                obtain ⟨r161, h159, s160, H⟩ := H
                                have w163q := HW_sp (show x_okm 124 = true by rfl) s160 hw
                                have w163 : HW h159 := w163q.1
                                refine e_cI (w := .int r161) (As := [.ref 397, .int (-5)]) (rest := []) (pc' := 174) i142_171 rfl rfl rfl rfl (by show (Nat.beq (x_kd 124) 0 && x_is 397 _ (MC 124) 0) = true; rw [show x_kd 124 = 0 by decide +kernel, show MC 124 = 11 by decide +kernel, (x_isC (by decide) hw.1 sh397)]; rfl) s160 ?_
                                refine e_rt i142_174 rfl ?_
                                exact H
                  · have d163 : ¬ (0 ≤ v) := (of_decide_eq_false c119)
                    replace H := H.2 d163
                    refine e_ld (pc' := 105) i142_104 rfl rfl ?_
                    refine e_cn (pc' := 107) i142_105 rfl ?_
                    obtain ⟨r166, h164, s165, H⟩ := H
                    have w168q := HW_sp (show x_okm 124 = true by rfl) s165 hw
                    have w168 : HW h164 := w168q.1
                    refine e_cI (w := .int r166) (As := [.ref 397, .int (-4)]) (rest := []) (pc' := 110) i142_107 rfl rfl rfl rfl (by show (Nat.beq (x_kd 124) 0 && x_is 397 _ (MC 124) 0) = true; rw [show x_kd 124 = 0 by decide +kernel, show MC 124 = 11 by decide +kernel, (x_isC (by decide) hw.1 sh397)]; rfl) s165 ?_
                    refine e_rt i142_110 rfl ?_
                    exact H
                · have d168 : r116 = 0 := (Decidable.not_not.mp (of_decide_eq_false c117))
                  replace H := H.1 d168
                  refine e_ld (pc' := 93) i142_92 rfl rfl ?_
                  refine e_cn (pc' := 95) i142_93 rfl ?_
                  obtain ⟨r171, h169, s170, H⟩ := H
                  have w173q := HW_sp (show x_okm 124 = true by rfl) s170 hw
                  have w173 : HW h169 := w173q.1
                  refine e_cI (w := .int r171) (As := [.ref 397, .int (-3)]) (rest := []) (pc' := 98) i142_95 rfl rfl rfl rfl (by show (Nat.beq (x_kd 124) 0 && x_is 397 _ (MC 124) 0) = true; rw [show x_kd 124 = 0 by decide +kernel, show MC 124 = 11 by decide +kernel, (x_isC (by decide) hw.1 sh397)]; rfl) s170 ?_
                  refine e_rt i142_98 rfl ?_
                  exact H
            · have d173 : ¬ (r103 = 0) := (of_decide_eq_false c104)
              replace H := H.2 d173
              refine e_ld (pc' := 55) i142_54 rfl rfl ?_
              refine e_get (w := .ref 420) (pc' := 58) i142_55 rfl (x_isC (by decide) hw.1 sh397) (x_fvR (by decide +kernel) (hw.2 397 24 420 lk397_24)) ?_
              refine e_ld (pc' := 59) i142_58 rfl rfl ?_
              refine e_al (n := k10) (w := .int (gI h 420 k10)) (pc' := 60) i142_59 rfl (x_alE (a := 20) (by decide) hw.1 sh420 (by decide) e11 g12 (by decide)) (x_clE e11 g12 (by decide)) rfl ?_
              refine e_ld (pc' := 61) i142_60 rfl rfl ?_
              refine e_get (w := .ref 420) (pc' := 64) i142_61 rfl (x_isC (by decide) hw.1 sh397) (x_fvR (by decide +kernel) (hw.2 397 24 420 lk397_24)) ?_
              refine e_ld (pc' := 65) i142_64 rfl rfl ?_
              refine e_al (n := k20) (w := .int (gI h 420 k20)) (pc' := 66) i142_65 rfl (x_alE (a := 20) (by decide) hw.1 sh420 (by decide) e21 g22 (by decide)) (x_clE e21 g22 (by decide)) rfl ?_
              refine e_ic (pc' := 69) i142_66 rfl (fun c174 => ?_) (fun c174 => ?_)
              · have d175 : (gI h 420 k10) = (gI h 420 k20) := (of_decide_eq_true c174)
                replace H := H.1 d175
                refine e_ld (pc' := 77) i142_76 rfl rfl ?_
                refine e_ld (pc' := 78) i142_77 rfl rfl ?_
                obtain ⟨r177, s176, H⟩ := H
                refine e_cI (w := .int r177) (As := [.ref 397, .int x]) (rest := []) (pc' := 81) i142_78 rfl rfl rfl rfl (by show (Nat.beq (x_kd 137) 0 && x_is 397 _ (MC 137) 0) = true; rw [show x_kd 137 = 0 by decide +kernel, show MC 137 = 11 by decide +kernel, (x_isC (by decide) hw.1 sh397)]; rfl) s176 ?_
                refine e_if (pc' := 84) i142_81 rfl (fun c178 => ?_) (fun c178 => ?_)
                · have d179 : r177 = 0 := (of_decide_eq_true c178)
                  replace H := H.1 d179
                  refine e_ld (pc' := 93) i142_92 rfl rfl ?_
                  refine e_cn (pc' := 95) i142_93 rfl ?_
                  obtain ⟨r182, h180, s181, H⟩ := H
                  have w184q := HW_sp (show x_okm 124 = true by rfl) s181 hw
                  have w184 : HW h180 := w184q.1
                  refine e_cI (w := .int r182) (As := [.ref 397, .int (-3)]) (rest := []) (pc' := 98) i142_95 rfl rfl rfl rfl (by show (Nat.beq (x_kd 124) 0 && x_is 397 _ (MC 124) 0) = true; rw [show x_kd 124 = 0 by decide +kernel, show MC 124 = 11 by decide +kernel, (x_isC (by decide) hw.1 sh397)]; rfl) s181 ?_
                  refine e_rt i142_98 rfl ?_
                  exact H
                · have d184 : ¬ (r177 = 0) := (of_decide_eq_false c178)
                  replace H := H.2 d184
                  refine e_ld (pc' := 85) i142_84 rfl rfl ?_
                  refine e_ld (pc' := 86) i142_85 rfl rfl ?_
                  obtain ⟨r186, s185, H⟩ := H
                  refine e_cI (w := .int r186) (As := [.ref 397, .int y]) (rest := []) (pc' := 89) i142_86 rfl rfl rfl rfl (by show (Nat.beq (x_kd 137) 0 && x_is 397 _ (MC 137) 0) = true; rw [show x_kd 137 = 0 by decide +kernel, show MC 137 = 11 by decide +kernel, (x_isC (by decide) hw.1 sh397)]; rfl) s185 ?_
                  refine e_if (pc' := 92) i142_89 rfl (fun c187 => ?_) (fun c187 => ?_)
                  · have d188 : ¬ (r186 = 0) := (of_decide_eq_true c187)
                    replace H := H.2 d188
                    refine e_ld (pc' := 101) i142_99 rfl rfl ?_
                    refine e_if (pc' := 104) i142_101 rfl (fun c189 => ?_) (fun c189 => ?_)
                    · have d190 : 0 ≤ v := (of_decide_eq_true c189)
                      replace H := H.1 d190
                      refine e_ld (pc' := 112) i142_111 rfl rfl ?_
                      refine e_if (pc' := 115) i142_112 rfl (fun c191 => ?_) (fun c191 => ?_)
                      · have d192 : z < 0 := (of_decide_eq_true c191)
                        replace H := H.1 d192
                        refine e_ld (pc' := 169) i142_168 rfl rfl ?_
                        refine e_cn (pc' := 171) i142_169 rfl ?_
                        obtain ⟨r195, h193, s194, H⟩ := H
                        have w197q := HW_sp (show x_okm 124 = true by rfl) s194 hw
                        have w197 : HW h193 := w197q.1
                        refine e_cI (w := .int r195) (As := [.ref 397, .int (-5)]) (rest := []) (pc' := 174) i142_171 rfl rfl rfl rfl (by show (Nat.beq (x_kd 124) 0 && x_is 397 _ (MC 124) 0) = true; rw [show x_kd 124 = 0 by decide +kernel, show MC 124 = 11 by decide +kernel, (x_isC (by decide) hw.1 sh397)]; rfl) s194 ?_
                        refine e_rt i142_174 rfl ?_
                        exact H
                      · have d197 : ¬ (z < 0) := (of_decide_eq_false c191)
                        replace H := H.2 d197
                        refine e_ld (pc' := 117) i142_115 rfl rfl ?_
                        refine e_if (pc' := 120) i142_117 rfl (fun c198 => ?_) (fun c198 => ?_)
                        · have d199 : u < 0 := (of_decide_eq_true c198)
                          replace H := H.1 d199
                          refine e_ld (pc' := 169) i142_168 rfl rfl ?_
                          refine e_cn (pc' := 171) i142_169 rfl ?_
                          obtain ⟨r202, h200, s201, H⟩ := H
                          have w204q := HW_sp (show x_okm 124 = true by rfl) s201 hw
                          have w204 : HW h200 := w204q.1
                          refine e_cI (w := .int r202) (As := [.ref 397, .int (-5)]) (rest := []) (pc' := 174) i142_171 rfl rfl rfl rfl (by show (Nat.beq (x_kd 124) 0 && x_is 397 _ (MC 124) 0) = true; rw [show x_kd 124 = 0 by decide +kernel, show MC 124 = 11 by decide +kernel, (x_isC (by decide) hw.1 sh397)]; rfl) s201 ?_
                          refine e_rt i142_174 rfl ?_
                          exact H
                        · have d204 : ¬ (u < 0) := (of_decide_eq_false c198)
                          replace H := H.2 d204
                          refine e_ld (pc' := 121) i142_120 rfl rfl ?_
                          refine e_ld (pc' := 122) i142_121 rfl rfl ?_
                          refine e_get (w := .ref 421) (pc' := 125) i142_122 rfl (x_isC (by decide) hw.1 sh397) (x_fvR (by decide +kernel) (hw.2 397 25 421 lk397_25)) ?_
                          refine e_ld (pc' := 126) i142_125 rfl rfl ?_
                          refine e_al (n := k10) (w := .int (gI h 421 k10)) (pc' := 127) i142_126 rfl (x_alE (a := 20) (by decide) hw.1 sh421 (by decide) e11 g12 (by decide)) (x_clE e11 g12 (by decide)) rfl ?_
                          refine e_ic (pc' := 130) i142_127 rfl (fun c205 => ?_) (fun c205 => ?_)
                          · have d206 : (gI h 421 k10) < z := (of_decide_eq_true c205)
                            replace H := H.1 d206
                            refine e_ld (pc' := 169) i142_168 rfl rfl ?_
                            refine e_cn (pc' := 171) i142_169 rfl ?_
                            obtain ⟨r209, h207, s208, H⟩ := H
                            have w211q := HW_sp (show x_okm 124 = true by rfl) s208 hw
                            have w211 : HW h207 := w211q.1
                            refine e_cI (w := .int r209) (As := [.ref 397, .int (-5)]) (rest := []) (pc' := 174) i142_171 rfl rfl rfl rfl (by show (Nat.beq (x_kd 124) 0 && x_is 397 _ (MC 124) 0) = true; rw [show x_kd 124 = 0 by decide +kernel, show MC 124 = 11 by decide +kernel, (x_isC (by decide) hw.1 sh397)]; rfl) s208 ?_
                            refine e_rt i142_174 rfl ?_
                            exact H
                          · have d211 : ¬ ((gI h 421 k10) < z) := (of_decide_eq_false c205)
                            replace H := H.2 d211
                            refine e_ld (pc' := 132) i142_130 rfl rfl ?_
                            refine e_ld (pc' := 133) i142_132 rfl rfl ?_
                            refine e_get (w := .ref 421) (pc' := 136) i142_133 rfl (x_isC (by decide) hw.1 sh397) (x_fvR (by decide +kernel) (hw.2 397 25 421 lk397_25)) ?_
                            refine e_ld (pc' := 137) i142_136 rfl rfl ?_
                            refine e_al (n := k20) (w := .int (gI h 421 k20)) (pc' := 138) i142_137 rfl (x_alE (a := 20) (by decide) hw.1 sh421 (by decide) e21 g22 (by decide)) (x_clE e21 g22 (by decide)) rfl ?_
                            refine e_ic (pc' := 141) i142_138 rfl (fun c212 => ?_) (fun c212 => ?_)
                            · have d213 : (gI h 421 k20) < u := (of_decide_eq_true c212)
                              replace H := H.1 d213
                              refine e_ld (pc' := 169) i142_168 rfl rfl ?_
                              refine e_cn (pc' := 171) i142_169 rfl ?_
                              obtain ⟨r216, h214, s215, H⟩ := H
                              have w218q := HW_sp (show x_okm 124 = true by rfl) s215 hw
                              have w218 : HW h214 := w218q.1
                              refine e_cI (w := .int r216) (As := [.ref 397, .int (-5)]) (rest := []) (pc' := 174) i142_171 rfl rfl rfl rfl (by show (Nat.beq (x_kd 124) 0 && x_is 397 _ (MC 124) 0) = true; rw [show x_kd 124 = 0 by decide +kernel, show MC 124 = 11 by decide +kernel, (x_isC (by decide) hw.1 sh397)]; rfl) s215 ?_
                              refine e_rt i142_174 rfl ?_
                              exact H
                            · have d218 : ¬ ((gI h 421 k20) < u) := (of_decide_eq_false c212)
                              replace H := H.2 d218
                              refine e_ld (pc' := 143) i142_141 rfl rfl ?_
                              refine e_ld (pc' := 144) i142_143 rfl rfl ?_
                              refine e_get (w := .ref 421) (pc' := 147) i142_144 rfl (x_isC (by decide) hw.1 sh397) (x_fvR (by decide +kernel) (hw.2 397 25 421 lk397_25)) ?_
                              refine e_ld (pc' := 148) i142_147 rfl rfl ?_
                              refine e_al (n := k10) (w := .int (gI h 421 k10)) (pc' := 149) i142_148 rfl (x_alE (a := 20) (by decide) hw.1 sh421 (by decide) e11 g12 (by decide)) (x_clE e11 g12 (by decide)) rfl ?_
                              refine e_ld (pc' := 150) i142_149 rfl rfl ?_
                              refine e_ib (z := (gI h 421 k10) - z) (pc' := 151) i142_150 rfl rfl ?_
                              refine e_ic (pc' := 154) i142_151 rfl (fun c219 => ?_) (fun c219 => ?_)
                              · have d220 : ((gI h 421 k10) - z) < v := (of_decide_eq_true c219)
                                replace H := H.1 d220
                                refine e_ld (pc' := 169) i142_168 rfl rfl ?_
                                refine e_cn (pc' := 171) i142_169 rfl ?_
                                obtain ⟨r223, h221, s222, H⟩ := H
                                have w225q := HW_sp (show x_okm 124 = true by rfl) s222 hw
                                have w225 : HW h221 := w225q.1
                                refine e_cI (w := .int r223) (As := [.ref 397, .int (-5)]) (rest := []) (pc' := 174) i142_171 rfl rfl rfl rfl (by show (Nat.beq (x_kd 124) 0 && x_is 397 _ (MC 124) 0) = true; rw [show x_kd 124 = 0 by decide +kernel, show MC 124 = 11 by decide +kernel, (x_isC (by decide) hw.1 sh397)]; rfl) s222 ?_
                                refine e_rt i142_174 rfl ?_
                                exact H
                              · have d225 : ¬ (((gI h 421 k10) - z) < v) := (of_decide_eq_false c219)
                                replace H := H.2 d225
                                refine e_ld (pc' := 156) i142_154 rfl rfl ?_
                                refine e_ld (pc' := 157) i142_156 rfl rfl ?_
                                refine e_get (w := .ref 421) (pc' := 160) i142_157 rfl (x_isC (by decide) hw.1 sh397) (x_fvR (by decide +kernel) (hw.2 397 25 421 lk397_25)) ?_
                                refine e_ld (pc' := 161) i142_160 rfl rfl ?_
                                refine e_al (n := k20) (w := .int (gI h 421 k20)) (pc' := 162) i142_161 rfl (x_alE (a := 20) (by decide) hw.1 sh421 (by decide) e21 g22 (by decide)) (x_clE e21 g22 (by decide)) rfl ?_
                                refine e_ld (pc' := 164) i142_162 rfl rfl ?_
                                refine e_ib (z := (gI h 421 k20) - u) (pc' := 165) i142_164 rfl rfl ?_
                                refine e_ic (pc' := 168) i142_165 rfl (fun c226 => ?_) (fun c226 => ?_)
                                · have d227 : v ≤ ((gI h 421 k20) - u) := (of_decide_eq_true c226)
                                  replace H := H.1 d227
                                  refine e_cn (pc' := 176) i142_175 rfl ?_
                                  refine e_st (ls' := [some (.ref 397), some (.int x), some (.int y), some (.int z), some (.int u), some (.int v), some (.int 0)]) (pc' := 178) i142_176 rfl rfl rfl ?_
                                  exact H
                                · have d228 : ¬ (v ≤ ((gI h 421 k20) - u)) := (of_decide_eq_false c226)
                                  replace H := H.2 d228
                                  refine e_ld (pc' := 169) i142_168 rfl rfl ?_
                                  refine e_cn (pc' := 171) i142_169 rfl ?_
                                  obtain ⟨r231, h229, s230, H⟩ := H
                                  have w233q := HW_sp (show x_okm 124 = true by rfl) s230 hw
                                  have w233 : HW h229 := w233q.1
                                  refine e_cI (w := .int r231) (As := [.ref 397, .int (-5)]) (rest := []) (pc' := 174) i142_171 rfl rfl rfl rfl (by show (Nat.beq (x_kd 124) 0 && x_is 397 _ (MC 124) 0) = true; rw [show x_kd 124 = 0 by decide +kernel, show MC 124 = 11 by decide +kernel, (x_isC (by decide) hw.1 sh397)]; rfl) s230 ?_
                                  refine e_rt i142_174 rfl ?_
                                  exact H
                    · have d233 : ¬ (0 ≤ v) := (of_decide_eq_false c189)
                      replace H := H.2 d233
                      refine e_ld (pc' := 105) i142_104 rfl rfl ?_
                      refine e_cn (pc' := 107) i142_105 rfl ?_
                      obtain ⟨r236, h234, s235, H⟩ := H
                      have w238q := HW_sp (show x_okm 124 = true by rfl) s235 hw
                      have w238 : HW h234 := w238q.1
                      refine e_cI (w := .int r236) (As := [.ref 397, .int (-4)]) (rest := []) (pc' := 110) i142_107 rfl rfl rfl rfl (by show (Nat.beq (x_kd 124) 0 && x_is 397 _ (MC 124) 0) = true; rw [show x_kd 124 = 0 by decide +kernel, show MC 124 = 11 by decide +kernel, (x_isC (by decide) hw.1 sh397)]; rfl) s235 ?_
                      refine e_rt i142_110 rfl ?_
                      exact H
                  · have d238 : r186 = 0 := (Decidable.not_not.mp (of_decide_eq_false c187))
                    replace H := H.1 d238
                    refine e_ld (pc' := 93) i142_92 rfl rfl ?_
                    refine e_cn (pc' := 95) i142_93 rfl ?_
                    obtain ⟨r241, h239, s240, H⟩ := H
                    have w243q := HW_sp (show x_okm 124 = true by rfl) s240 hw
                    have w243 : HW h239 := w243q.1
                    refine e_cI (w := .int r241) (As := [.ref 397, .int (-3)]) (rest := []) (pc' := 98) i142_95 rfl rfl rfl rfl (by show (Nat.beq (x_kd 124) 0 && x_is 397 _ (MC 124) 0) = true; rw [show x_kd 124 = 0 by decide +kernel, show MC 124 = 11 by decide +kernel, (x_isC (by decide) hw.1 sh397)]; rfl) s240 ?_
                    refine e_rt i142_98 rfl ?_
                    exact H
              · have d243 : ¬ ((gI h 420 k10) = (gI h 420 k20)) := (of_decide_eq_false c174)
                replace H := H.2 d243
                refine e_ld (pc' := 70) i142_69 rfl rfl ?_
                refine e_cn (pc' := 72) i142_70 rfl ?_
                obtain ⟨r246, h244, s245, H⟩ := H
                have w248q := HW_sp (show x_okm 124 = true by rfl) s245 hw
                have w248 : HW h244 := w248q.1
                refine e_cI (w := .int r246) (As := [.ref 397, .int (-2)]) (rest := []) (pc' := 75) i142_72 rfl rfl rfl rfl (by show (Nat.beq (x_kd 124) 0 && x_is 397 _ (MC 124) 0) = true; rw [show x_kd 124 = 0 by decide +kernel, show MC 124 = 11 by decide +kernel, (x_isC (by decide) hw.1 sh397)]; rfl) s245 ?_
                refine e_rt i142_75 rfl ?_
                exact H
    · have d248 : ¬ ((x_isShelf y) = true) := (show ¬ (x_isShelf y) = true by rw [c8]; decide)
      replace H := H.2 d248
      refine e_ld (pc' := 15) i142_14 rfl rfl ?_
      refine e_cn (pc' := 16) i142_15 rfl ?_
      obtain ⟨r251, h249, s250, H⟩ := H
      have w253q := HW_sp (show x_okm 124 = true by rfl) s250 hw
      have w253 : HW h249 := w253q.1
      refine e_cI (w := .int r251) (As := [.ref 397, .int (-1)]) (rest := []) (pc' := 19) i142_16 rfl rfl rfl rfl (by show (Nat.beq (x_kd 124) 0 && x_is 397 _ (MC 124) 0) = true; rw [show x_kd 124 = 0 by decide +kernel, show MC 124 = 11 by decide +kernel, (x_isC (by decide) hw.1 sh397)]; rfl) s250 ?_
      refine e_rt i142_19 rfl ?_
      exact H
set_option maxHeartbeats 8000000 in
set_option maxRecDepth 100000 in
theorem v142_178 {L : Nat} {xs : Nat → Int32} {Q : Option Value → Hp → Prop} {h : Hp} {l1 : Int32} {l2 : Int32} {l3 : Int32} {l4 : Int32} {l5 : Int32} {l6 : Int32} (hw : HW h) 
  (H : ((l5 ≤ l6) → (WP L xs 142 215 [some (.ref 397), some (.int l1), some (.int l2), some (.int l3), some (.int l4), some (.int l5), some (.int 0)] [] h Q)) ∧ (¬ (l5 ≤ l6) → (∃ k4 : Nat, (((100 * l1) + l3) + l6) = nI k4 ∧ k4 < 800 ∧ ∃ k7 : Nat, l6 = nI k7 ∧ k7 < 100 ∧ WP L xs 142 178 [some (.ref 397), some (.int l1), some (.int l2), some (.int l3), some (.int l4), some (.int l5), some (.int (l6 + 1))] [] (sL h 423 k7 (gL h 422 k4)) Q))) : WP L xs 142 178 [some (.ref 397), some (.int l1), some (.int l2), some (.int l3), some (.int l4), some (.int l5), some (.int l6)] [] h Q := by
  refine e_ld (pc' := 180) i142_178 rfl rfl ?_
  refine e_ld (pc' := 182) i142_180 rfl rfl ?_
  refine e_ic (pc' := 185) i142_182 rfl (fun c1 => ?_) (fun c1 => ?_)
  · have d2 : l5 ≤ l6 := (of_decide_eq_true c1)
    replace H := H.1 d2
    refine e_cn (pc' := 213) i142_212 rfl ?_
    refine e_st (ls' := [some (.ref 397), some (.int l1), some (.int l2), some (.int l3), some (.int l4), some (.int l5), some (.int 0)]) (pc' := 215) i142_213 rfl rfl rfl ?_
    exact H
  · have d3 : ¬ (l5 ≤ l6) := (of_decide_eq_false c1)
    replace H := H.2 d3
    refine e_ld (pc' := 186) i142_185 rfl rfl ?_
    refine e_get (w := .ref 423) (pc' := 189) i142_186 rfl (x_isC (by decide) hw.1 sh397) (x_fvR (by decide +kernel) (hw.2 397 27 423 lk397_27)) ?_
    refine e_ld (pc' := 191) i142_189 rfl rfl ?_
    refine e_ld (pc' := 192) i142_191 rfl rfl ?_
    refine e_get (w := .ref 422) (pc' := 195) i142_192 rfl (x_isC (by decide) hw.1 sh397) (x_fvR (by decide +kernel) (hw.2 397 26 422 lk397_26)) ?_
    refine e_cn (pc' := 197) i142_195 rfl ?_
    refine e_ld (pc' := 198) i142_197 rfl rfl ?_
    refine e_ib (z := 100 * l1) (pc' := 199) i142_198 rfl rfl ?_
    refine e_ld (pc' := 200) i142_199 rfl rfl ?_
    refine e_ib (z := (100 * l1) + l3) (pc' := 201) i142_200 rfl rfl ?_
    refine e_ld (pc' := 203) i142_201 rfl rfl ?_
    refine e_ib (z := ((100 * l1) + l3) + l6) (pc' := 204) i142_203 rfl rfl ?_
    obtain ⟨k4, e5, g6, H⟩ := H
    refine e_al (n := k4) (w := .long (gL h 422 k4)) (pc' := 205) i142_204 rfl (x_alE (a := 21) (by decide) hw.1 sh422 (by decide) e5 g6 (by decide)) (x_clE e5 g6 (by decide)) rfl ?_
    obtain ⟨k7, e8, g9, H⟩ := H
    refine e_as (n := k7) (h' := sL h 423 k7 (gL h 422 k4)) (pc' := 206) i142_205 rfl (x_alE (a := 21) (by decide) hw.1 sh423 (by decide) e8 g9 (by decide)) (x_clE e8 g9 (by decide)) (by rw [(show (SH 423).1 = 21 by rw [sh423])]; rfl) ?_
    have w11 : HW (sL h 423 k7 (gL h 422 k4)) := HW_sL hw
    refine e_inc (z := l6 + 1) (ls' := [some (.ref 397), some (.int l1), some (.int l2), some (.int l3), some (.int l4), some (.int l5), some (.int (l6 + 1))]) (pc' := 209) i142_206 rfl rfl rfl rfl ?_
    refine e_go i142_209 ?_
    exact H
set_option maxHeartbeats 8000000 in
set_option maxRecDepth 100000 in
theorem v142_215 {L : Nat} {xs : Nat → Int32} {Q : Option Value → Hp → Prop} {h : Hp} {z1 : Option Value} {l2 : Int32} {z3 : Option Value} {l4 : Int32} {l5 : Int32} {l6 : Int32} (hw : HW h) 
  (H : ((l5 ≤ l6) → (Q (some (.int 1)) h)) ∧ (¬ (l5 ≤ l6) → (∃ k4 : Nat, l6 = nI k4 ∧ k4 < 100 ∧ ∃ k7 : Nat, (((100 * l2) + l4) + l6) = nI k7 ∧ k7 < 800 ∧ WP L xs 142 215 [some (.ref 397), z1, some (.int l2), z3, some (.int l4), some (.int l5), some (.int (l6 + 1))] [] (sL h 422 k7 (gL h 423 k4)) Q))) : WP L xs 142 215 [some (.ref 397), z1, some (.int l2), z3, some (.int l4), some (.int l5), some (.int l6)] [] h Q := by
  refine e_ld (pc' := 217) i142_215 rfl rfl ?_
  refine e_ld (pc' := 219) i142_217 rfl rfl ?_
  refine e_ic (pc' := 222) i142_219 rfl (fun c1 => ?_) (fun c1 => ?_)
  · have d2 : l5 ≤ l6 := (of_decide_eq_true c1)
    replace H := H.1 d2
    refine e_cn (pc' := 251) i142_250 rfl ?_
    refine e_rt i142_251 rfl ?_
    exact H
  · have d3 : ¬ (l5 ≤ l6) := (of_decide_eq_false c1)
    replace H := H.2 d3
    refine e_ld (pc' := 223) i142_222 rfl rfl ?_
    refine e_get (w := .ref 422) (pc' := 226) i142_223 rfl (x_isC (by decide) hw.1 sh397) (x_fvR (by decide +kernel) (hw.2 397 26 422 lk397_26)) ?_
    refine e_cn (pc' := 228) i142_226 rfl ?_
    refine e_ld (pc' := 229) i142_228 rfl rfl ?_
    refine e_ib (z := 100 * l2) (pc' := 230) i142_229 rfl rfl ?_
    refine e_ld (pc' := 232) i142_230 rfl rfl ?_
    refine e_ib (z := (100 * l2) + l4) (pc' := 233) i142_232 rfl rfl ?_
    refine e_ld (pc' := 235) i142_233 rfl rfl ?_
    refine e_ib (z := ((100 * l2) + l4) + l6) (pc' := 236) i142_235 rfl rfl ?_
    refine e_ld (pc' := 237) i142_236 rfl rfl ?_
    refine e_get (w := .ref 423) (pc' := 240) i142_237 rfl (x_isC (by decide) hw.1 sh397) (x_fvR (by decide +kernel) (hw.2 397 27 423 lk397_27)) ?_
    refine e_ld (pc' := 242) i142_240 rfl rfl ?_
    obtain ⟨k4, e5, g6, H⟩ := H
    refine e_al (n := k4) (w := .long (gL h 423 k4)) (pc' := 243) i142_242 rfl (x_alE (a := 21) (by decide) hw.1 sh423 (by decide) e5 g6 (by decide)) (x_clE e5 g6 (by decide)) rfl ?_
    obtain ⟨k7, e8, g9, H⟩ := H
    refine e_as (n := k7) (h' := sL h 422 k7 (gL h 423 k4)) (pc' := 244) i142_243 rfl (x_alE (a := 21) (by decide) hw.1 sh422 (by decide) e8 g9 (by decide)) (x_clE e8 g9 (by decide)) (by rw [(show (SH 422).1 = 21 by rw [sh422])]; rfl) ?_
    have w11 : HW (sL h 422 k7 (gL h 423 k4)) := HW_sL hw
    refine e_inc (z := l6 + 1) (ls' := [some (.ref 397), z1, some (.int l2), z3, some (.int l4), some (.int l5), some (.int (l6 + 1))]) (pc' := 247) i142_244 rfl rfl rfl rfl ?_
    refine e_go i142_247 ?_
    exact H
-- FloorTurnModel.element(II)J
set_option maxHeartbeats 8000000 in
set_option maxRecDepth 100000 in
theorem v143 {L : Nat} {xs : Nat → Int32} {Q : Option Value → Hp → Prop} {h : Hp} {x : Int32} {y : Int32} (hw : HW h) 
  (H : (((x_isShelf x) = true) → (∃ (r5 : Int32), Sp L xs 137 [.ref 397, .int x] h (some (.int r5)) h ∧ ((r5 = 0) → (Q (some (.long 0)) h)) ∧ (¬ (r5 = 0) → (∃ k9 : Nat, x = nI k9 ∧ k9 < 8 ∧ (((x_in3 y 0 ((gI h 421 k9) - 1)) = true) → (∃ k15 : Nat, ((100 * x) + y) = nI k15 ∧ k15 < 800 ∧ Q (some (.long (gL h 422 k15))) h)) ∧ (¬ ((x_in3 y 0 ((gI h 421 k9) - 1)) = true) → (Q (some (.long 0)) h)))))) ∧ (¬ ((x_isShelf x) = true) → (Q (some (.long 0)) h))) : ∃ r h', Sp L xs 143 [.ref 397, .int x, .int y] h r h' ∧ Q r h' := by
  refine sp_ex (ls := [some (.ref 397), some (.int x), some (.int y)]) rfl ?_
  refine e_ld (pc' := 1) i143_0 rfl rfl ?_
  refine e_cI (w := .int (b2i (x_isShelf x))) (As := [.int x]) (rest := []) (pc' := 4) i143_1 rfl rfl rfl rfl rfl m136 ?_
  refine e_b0 (pc' := 7) i143_4 rfl (fun c1 => ?_) (fun c1 => ?_)
  · have d2 : ¬ ((x_isShelf x) = true) := (show ¬ (x_isShelf x) = true by rw [c1]; decide)
    replace H := H.2 d2
    refine e_cn (pc' := 46) i143_45 rfl ?_
    refine e_rt i143_46 rfl ?_
    exact H
  · have d3 : (x_isShelf x) = true := c1
    replace H := H.1 d3
    refine e_ld (pc' := 8) i143_7 rfl rfl ?_
    refine e_ld (pc' := 9) i143_8 rfl rfl ?_
    obtain ⟨r5, s4, H⟩ := H
    refine e_cI (w := .int r5) (As := [.ref 397, .int x]) (rest := []) (pc' := 12) i143_9 rfl rfl rfl rfl (by show (Nat.beq (x_kd 137) 0 && x_is 397 _ (MC 137) 0) = true; rw [show x_kd 137 = 0 by decide +kernel, show MC 137 = 11 by decide +kernel, (x_isC (by decide) hw.1 sh397)]; rfl) s4 ?_
    refine e_if (pc' := 15) i143_12 rfl (fun c6 => ?_) (fun c6 => ?_)
    · have d7 : r5 = 0 := (of_decide_eq_true c6)
      replace H := H.1 d7
      refine e_cn (pc' := 46) i143_45 rfl ?_
      refine e_rt i143_46 rfl ?_
      exact H
    · have d8 : ¬ (r5 = 0) := (of_decide_eq_false c6)
      replace H := H.2 d8
      refine e_ld (pc' := 16) i143_15 rfl rfl ?_
      refine e_cn (pc' := 17) i143_16 rfl ?_
      refine e_ld (pc' := 18) i143_17 rfl rfl ?_
      refine e_get (w := .ref 421) (pc' := 21) i143_18 rfl (x_isC (by decide) hw.1 sh397) (x_fvR (by decide +kernel) (hw.2 397 25 421 lk397_25)) ?_
      refine e_ld (pc' := 22) i143_21 rfl rfl ?_
      obtain ⟨k9, e10, g11, H⟩ := H
      refine e_al (n := k9) (w := .int (gI h 421 k9)) (pc' := 23) i143_22 rfl (x_alE (a := 20) (by decide) hw.1 sh421 (by decide) e10 g11 (by decide)) (x_clE e10 g11 (by decide)) rfl ?_
      refine e_cn (pc' := 24) i143_23 rfl ?_
      refine e_ib (z := (gI h 421 k9) - 1) (pc' := 25) i143_24 rfl rfl ?_
      refine e_cI (w := .int (b2i (x_in3 y 0 ((gI h 421 k9) - 1)))) (As := [.int y, .int 0, .int ((gI h 421 k9) - 1)]) (rest := []) (pc' := 28) i143_25 rfl rfl rfl rfl rfl m123 ?_
      refine e_b0 (pc' := 31) i143_28 rfl (fun c12 => ?_) (fun c12 => ?_)
      · have d13 : ¬ ((x_in3 y 0 ((gI h 421 k9) - 1)) = true) := (show ¬ (x_in3 y 0 ((gI h 421 k9) - 1)) = true by rw [c12]; decide)
        replace H := H.2 d13
        refine e_cn (pc' := 46) i143_45 rfl ?_
        refine e_rt i143_46 rfl ?_
        exact H
      · have d14 : (x_in3 y 0 ((gI h 421 k9) - 1)) = true := c12
        replace H := H.1 d14
        refine e_ld (pc' := 32) i143_31 rfl rfl ?_
        refine e_get (w := .ref 422) (pc' := 35) i143_32 rfl (x_isC (by decide) hw.1 sh397) (x_fvR (by decide +kernel) (hw.2 397 26 422 lk397_26)) ?_
        refine e_cn (pc' := 37) i143_35 rfl ?_
        refine e_ld (pc' := 38) i143_37 rfl rfl ?_
        refine e_ib (z := 100 * x) (pc' := 39) i143_38 rfl rfl ?_
        refine e_ld (pc' := 40) i143_39 rfl rfl ?_
        refine e_ib (z := (100 * x) + y) (pc' := 41) i143_40 rfl rfl ?_
        obtain ⟨k15, e16, g17, H⟩ := H
        refine e_al (n := k15) (w := .long (gL h 422 k15)) (pc' := 42) i143_41 rfl (x_alE (a := 21) (by decide) hw.1 sh422 (by decide) e16 g17 (by decide)) (x_clE e16 g17 (by decide)) rfl ?_
        refine e_go i143_42 ?_
        refine e_rt i143_46 rfl ?_
        exact H
-- FloorTurnModel.clear(I)I
set_option maxHeartbeats 8000000 in
set_option maxRecDepth 100000 in
theorem v144 {L : Nat} {xs : Nat → Int32} {Q : Option Value → Hp → Prop} {h : Hp} {x : Int32} (hw : HW h) 
  (H : (((x_isShelf x) = true) → (∃ k3 : Nat, x = nI k3 ∧ k3 < 8 ∧ Q (some (.int (b2i (if (gI h 420 k3) = (-1) then (false) else (true))))) (sI h 420 k3 (-1)))) ∧ (¬ ((x_isShelf x) = true) → (∃ (r14 : Int32) (h12 : Hp), Sp L xs 124 [.ref 397, .int (-1)] h (some (.int r14)) h12 ∧ Q (some (.int r14)) h12))) : ∃ r h', Sp L xs 144 [.ref 397, .int x] h r h' ∧ Q r h' := by
  refine sp_ex (ls := [some (.ref 397), some (.int x), none]) rfl ?_
  refine e_ld (pc' := 1) i144_0 rfl rfl ?_
  refine e_cI (w := .int (b2i (x_isShelf x))) (As := [.int x]) (rest := []) (pc' := 4) i144_1 rfl rfl rfl rfl rfl m136 ?_
  refine e_b1 (pc' := 7) i144_4 rfl (fun c1 => ?_) (fun c1 => ?_)
  · have d2 : (x_isShelf x) = true := c1
    replace H := H.1 d2
    refine e_ld (pc' := 14) i144_13 rfl rfl ?_
    refine e_get (w := .ref 420) (pc' := 17) i144_14 rfl (x_isC (by decide) hw.1 sh397) (x_fvR (by decide +kernel) (hw.2 397 24 420 lk397_24)) ?_
    refine e_ld (pc' := 18) i144_17 rfl rfl ?_
    obtain ⟨k3, e4, g5, H⟩ := H
    refine e_al (n := k3) (w := .int (gI h 420 k3)) (pc' := 19) i144_18 rfl (x_alE (a := 20) (by decide) hw.1 sh420 (by decide) e4 g5 (by decide)) (x_clE e4 g5 (by decide)) rfl ?_
    refine e_st (ls' := [some (.ref 397), some (.int x), some (.int (gI h 420 k3))]) (pc' := 20) i144_19 rfl rfl rfl ?_
    refine e_ld (pc' := 21) i144_20 rfl rfl ?_
    refine e_get (w := .ref 420) (pc' := 24) i144_21 rfl (x_isC (by decide) hw.1 sh397) (x_fvR (by decide +kernel) (hw.2 397 24 420 lk397_24)) ?_
    refine e_ld (pc' := 25) i144_24 rfl rfl ?_
    refine e_cn (pc' := 26) i144_25 rfl ?_
    refine e_as (n := k3) (h' := sI h 420 k3 (-1)) (pc' := 27) i144_26 rfl (x_alE (a := 20) (by decide) hw.1 sh420 (by decide) e4 g5 (by decide)) (x_clE e4 g5 (by decide)) (by rw [(show (SH 420).1 = 20 by rw [sh420])]; rfl) ?_
    have w7 : HW (sI h 420 k3 (-1)) := HW_sI hw
    refine e_ld (pc' := 28) i144_27 rfl rfl ?_
    refine e_cn (pc' := 29) i144_28 rfl ?_
    refine e_reg (pc' := 37) (ls' := [some (.ref 397), some (.int x), some (.int (gI h 420 k3))]) (st' := [.int (b2i (if (gI h 420 k3) = (-1) then (false) else (true)))]) (fun kj7 => ?_) ?_
    · skip
      refine e_ic (pc' := 32) i144_29 rfl (fun c8 => ?_) (fun c8 => ?_)
      · have d9 : ¬ ((gI h 420 k3) = (-1)) := (of_decide_eq_true c8)
        refine e_cn (pc' := 37) i144_36 rfl ?_
        exact (by simp only [if_neg d9] at kj7 ⊢; exact kj7)
      · have d10 : (gI h 420 k3) = (-1) := (Decidable.not_not.mp (of_decide_eq_false c8))
        refine e_cn (pc' := 33) i144_32 rfl ?_
        refine e_go i144_33 ?_
        exact (by simp only [if_pos d10] at kj7 ⊢; exact kj7)
    refine e_rt i144_37 rfl ?_
    exact H
  · have d11 : ¬ ((x_isShelf x) = true) := (show ¬ (x_isShelf x) = true by rw [c1]; decide)
    replace H := H.2 d11
    refine e_ld (pc' := 8) i144_7 rfl rfl ?_
    refine e_cn (pc' := 9) i144_8 rfl ?_
    obtain ⟨r14, h12, s13, H⟩ := H
    have w16q := HW_sp (show x_okm 124 = true by rfl) s13 hw
    have w16 : HW h12 := w16q.1
    refine e_cI (w := .int r14) (As := [.ref 397, .int (-1)]) (rest := []) (pc' := 12) i144_9 rfl rfl rfl rfl (by show (Nat.beq (x_kd 124) 0 && x_is 397 _ (MC 124) 0) = true; rw [show x_kd 124 = 0 by decide +kernel, show MC 124 = 11 by decide +kernel, (x_isC (by decide) hw.1 sh397)]; rfl) s13 ?_
    refine e_rt i144_12 rfl ?_
    exact H
-- FloorTurnModel.holds(I)I
set_option maxHeartbeats 8000000 in
set_option maxRecDepth 100000 in
theorem v145 {L : Nat} {xs : Nat → Int32} {Q : Option Value → Hp → Prop} {h : Hp} {x : Int32} (hw : HW h) 
  (H : (((x_isShelf x) = true) → (∃ k4 : Nat, x = nI k4 ∧ k4 < 8 ∧ Q (some (.int (gI h 420 k4))) h)) ∧ (¬ ((x_isShelf x) = true) → (Q (some (.int (-1))) h))) : ∃ r h', Sp L xs 145 [.ref 397, .int x] h r h' ∧ Q r h' := by
  refine sp_ex (ls := [some (.ref 397), some (.int x)]) rfl ?_
  refine e_ld (pc' := 1) i145_0 rfl rfl ?_
  refine e_cI (w := .int (b2i (x_isShelf x))) (As := [.int x]) (rest := []) (pc' := 4) i145_1 rfl rfl rfl rfl rfl m136 ?_
  refine e_b0 (pc' := 7) i145_4 rfl (fun c1 => ?_) (fun c1 => ?_)
  · have d2 : ¬ ((x_isShelf x) = true) := (show ¬ (x_isShelf x) = true by rw [c1]; decide)
    replace H := H.2 d2
    refine e_cn (pc' := 17) i145_16 rfl ?_
    refine e_rt i145_17 rfl ?_
    exact H
  · have d3 : (x_isShelf x) = true := c1
    replace H := H.1 d3
    refine e_ld (pc' := 8) i145_7 rfl rfl ?_
    refine e_get (w := .ref 420) (pc' := 11) i145_8 rfl (x_isC (by decide) hw.1 sh397) (x_fvR (by decide +kernel) (hw.2 397 24 420 lk397_24)) ?_
    refine e_ld (pc' := 12) i145_11 rfl rfl ?_
    obtain ⟨k4, e5, g6, H⟩ := H
    refine e_al (n := k4) (w := .int (gI h 420 k4)) (pc' := 13) i145_12 rfl (x_alE (a := 20) (by decide) hw.1 sh420 (by decide) e5 g6 (by decide)) (x_clE e5 g6 (by decide)) rfl ?_
    refine e_go i145_13 ?_
    refine e_rt i145_17 rfl ?_
    exact H
-- FloorTurnModel.cell(II)I
set_option maxHeartbeats 8000000 in
set_option maxRecDepth 100000 in
theorem v146 {L : Nat} {xs : Nat → Int32} {Q : Option Value → Hp → Prop} {h : Hp} {x : Int32} {y : Int32} (hw : HW h) 
  (H : ∃ k1 : Nat, ((100 * x) + y) = nI k1 ∧ k1 < 800 ∧ Q (some (.int ((gL h 422 k1).toInt32))) h) : ∃ r h', Sp L xs 146 [.ref 397, .int x, .int y] h r h' ∧ Q r h' := by
  refine sp_ex (ls := [some (.ref 397), some (.int x), some (.int y)]) rfl ?_
  refine e_ld (pc' := 1) i146_0 rfl rfl ?_
  refine e_get (w := .ref 422) (pc' := 4) i146_1 rfl (x_isC (by decide) hw.1 sh397) (x_fvR (by decide +kernel) (hw.2 397 26 422 lk397_26)) ?_
  refine e_cn (pc' := 6) i146_4 rfl ?_
  refine e_ld (pc' := 7) i146_6 rfl rfl ?_
  refine e_ib (z := 100 * x) (pc' := 8) i146_7 rfl rfl ?_
  refine e_ld (pc' := 9) i146_8 rfl rfl ?_
  refine e_ib (z := (100 * x) + y) (pc' := 10) i146_9 rfl rfl ?_
  obtain ⟨k1, e2, g3, H⟩ := H
  refine e_al (n := k1) (w := .long (gL h 422 k1)) (pc' := 11) i146_10 rfl (x_alE (a := 21) (by decide) hw.1 sh422 (by decide) e2 g3 (by decide)) (x_clE e2 g3 (by decide)) rfl ?_
  refine e_un (pc' := 12) i146_11 rfl rfl ?_
  refine e_rt i146_12 rfl ?_
  exact H
