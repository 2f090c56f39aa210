/-! Conditions of methods (made by wip/whole/vcmake.py). -/
-- FloorTurnModel.turn(I)I
set_option maxHeartbeats 8000000 in
set_option maxRecDepth 100000 in
theorem v173 {L : Nat} {xs : Nat → Int32} {Q : Option Value → Hp → Prop} {h : Hp} {x : Int32} (hw : HW h) 
  (H : (((x_in3 x 1 400) = true) → (∃ (r6 : Int32) (h4 : Hp), Sp L xs 169 [.ref 397, .int (4 * x)] (sI h 397 40 0) (some (.int r6)) h4 ∧ ((r6 = 0) → (Q (some (.int 0)) h4)) ∧ (¬ (r6 = 0) → (((r6 ≤ x) → (∃ (r15 : Int32) (h13 : Hp), Sp L xs 170 [.ref 397, .int r6, .int x] h4 (some (.int r15)) h13 ∧ (((r15 + r6) ≤ x) → (∃ (h22 : Hp), Sp L xs 172 [.ref 397, .int r6] (sI (sI (sI h13 397 40 1) 434 0 r15) 434 1 r6) none h22 ∧ Q (some (.int r6)) h22)) ∧ (¬ ((r15 + r6) ≤ x) → (Q (some (.int 0)) h13)))) ∧ (¬ (r6 ≤ x) → (Q (some (.int 0)) h4)))))) ∧ (¬ ((x_in3 x 1 400) = true) → (∃ (r30 : Int32) (h28 : Hp), Sp L xs 124 [.ref 397, .int (-6)] h (some (.int r30)) h28 ∧ Q (some (.int r30)) h28))) : ∃ r h', Sp L xs 173 [.ref 397, .int x] h r h' ∧ Q r h' := by
  refine sp_ex (ls := [some (.ref 397), some (.int x), none, none]) rfl ?_
  refine e_ld (pc' := 1) i173_0 rfl rfl ?_
  refine e_cn (pc' := 2) i173_1 rfl ?_
  refine e_cn (pc' := 5) i173_2 rfl ?_
  refine e_cI (w := .int (b2i (x_in3 x 1 400))) (As := [.int x, .int 1, .int 400]) (rest := []) (pc' := 8) i173_5 rfl rfl rfl rfl rfl m123 ?_
  refine e_b1 (pc' := 11) i173_8 rfl (fun c1 => ?_) (fun c1 => ?_)
  · have d2 : (x_in3 x 1 400) = true := c1
    replace H := H.1 d2
    refine e_ld (pc' := 19) i173_18 rfl rfl ?_
    refine e_cn (pc' := 20) i173_19 rfl ?_
    refine e_put (h' := sI h 397 40 0) (pc' := 23) i173_20 rfl (x_isC (by decide) hw.1 sh397) rfl ?_
    have w4 : HW (sI h 397 40 0) := HW_sI hw
    refine e_ld (pc' := 24) i173_23 rfl rfl ?_
    refine e_cn (pc' := 25) i173_24 rfl ?_
    refine e_ld (pc' := 26) i173_25 rfl rfl ?_
    refine e_ib (z := 4 * x) (pc' := 27) i173_26 rfl rfl ?_
    obtain ⟨r6, h4, s5, H⟩ := H
    have w9q := HW_sp (show x_okm 169 = true by rfl) s5 w4
    have w9 : HW h4 := w9q.1
    refine e_cI (w := .int r6) (As := [.ref 397, .int (4 * x)]) (rest := []) (pc' := 30) i173_27 rfl rfl rfl rfl (by show (Nat.beq (x_kd 169) 0 && x_is 397 _ (MC 169) 0) = true; rw [show x_kd 169 = 0 by decide +kernel, show MC 169 = 11 by decide +kernel, (x_isC (by decide) w4.1 sh397)]; rfl) s5 ?_
    refine e_st (ls' := [some (.ref 397), some (.int x), some (.int r6), none]) (pc' := 31) i173_30 rfl rfl rfl ?_
    refine e_ld (pc' := 32) i173_31 rfl rfl ?_
    refine e_if (pc' := 35) i173_32 rfl (fun c8 => ?_) (fun c8 => ?_)
    · have d9 : r6 = 0 := (of_decide_eq_true c8)
      replace H := H.1 d9
      refine e_cn (pc' := 41) i173_40 rfl ?_
      refine e_rt i173_41 rfl ?_
      exact H
    · have d10 : ¬ (r6 = 0) := (of_decide_eq_false c8)
      replace H := H.2 d10
      refine e_ld (pc' := 36) i173_35 rfl rfl ?_
      refine e_ld (pc' := 37) i173_36 rfl rfl ?_
      refine e_ic (pc' := 40) i173_37 rfl (fun c11 => ?_) (fun c11 => ?_)
      · have d12 : r6 ≤ x := (of_decide_eq_true c11)
        replace H := H.1 d12
        refine e_ld (pc' := 43) i173_42 rfl rfl ?_
        refine e_ld (pc' := 44) i173_43 rfl rfl ?_
        refine e_ld (pc' := 45) i173_44 rfl rfl ?_
        obtain ⟨r15, h13, s14, H⟩ := H
        have w19q := HW_sp (show x_okm 170 = true by rfl) s14 w9
        have w19 : HW h13 := w19q.1
        refine e_cI (w := .int r15) (As := [.ref 397, .int r6, .int x]) (rest := []) (pc' := 48) i173_45 rfl rfl rfl rfl (by show (Nat.beq (x_kd 170) 0 && x_is 397 _ (MC 170) 0) = true; rw [show x_kd 170 = 0 by decide +kernel, show MC 170 = 11 by decide +kernel, (x_isC (by decide) w9.1 sh397)]; rfl) s14 ?_
        refine e_st (ls' := [some (.ref 397), some (.int x), some (.int r6), some (.int r15)]) (pc' := 49) i173_48 rfl rfl rfl ?_
        refine e_ld (pc' := 50) i173_49 rfl rfl ?_
        refine e_ld (pc' := 51) i173_50 rfl rfl ?_
        refine e_ib (z := r15 + r6) (pc' := 52) i173_51 rfl rfl ?_
        refine e_ld (pc' := 53) i173_52 rfl rfl ?_
        refine e_ic (pc' := 56) i173_53 rfl (fun c17 => ?_) (fun c17 => ?_)
        · have d18 : (r15 + r6) ≤ x := (of_decide_eq_true c17)
          replace H := H.1 d18
          refine e_ld (pc' := 59) i173_58 rfl rfl ?_
          refine e_cn (pc' := 60) i173_59 rfl ?_
          refine e_put (h' := sI h13 397 40 1) (pc' := 63) i173_60 rfl (x_isC (by decide) w19.1 sh397) rfl ?_
          have w23 : HW (sI h13 397 40 1) := HW_sI w19
          refine e_ld (pc' := 64) i173_63 rfl rfl ?_
          refine e_get (w := .ref 434) (pc' := 67) i173_64 rfl (x_isC (by decide) w23.1 sh397) (x_fvR (by decide +kernel) (w23.2 397 41 434 lk397_41)) ?_
          refine e_cn (pc' := 68) i173_67 rfl ?_
          refine e_ld (pc' := 69) i173_68 rfl rfl ?_
          refine e_as (n := 0) (h' := sI (sI h13 397 40 1) 434 0 r15) (pc' := 70) i173_69 rfl (x_alE (a := 20) (by decide) w23.1 sh434 (by decide) (show (0 : Int32) = nI 0 from rfl) (show 0 < 5 by decide) (by decide)) (x_clE (show (0 : Int32) = nI 0 from rfl) (show 0 < 5 by decide) (by decide)) (by rw [(show (SH 434).1 = 20 by rw [sh434])]; rfl) ?_
          have w25 : HW (sI (sI h13 397 40 1) 434 0 r15) := HW_sI w23
          refine e_ld (pc' := 71) i173_70 rfl rfl ?_
          refine e_get (w := .ref 434) (pc' := 74) i173_71 rfl (x_isC (by decide) w25.1 sh397) (x_fvR (by decide +kernel) (w25.2 397 41 434 lk397_41)) ?_
          refine e_cn (pc' := 75) i173_74 rfl ?_
          refine e_ld (pc' := 76) i173_75 rfl rfl ?_
          refine e_as (n := 1) (h' := sI (sI (sI h13 397 40 1) 434 0 r15) 434 1 r6) (pc' := 77) i173_76 rfl (x_alE (a := 20) (by decide) w25.1 sh434 (by decide) (show (1 : Int32) = nI 1 from rfl) (show 1 < 5 by decide) (by decide)) (x_clE (show (1 : Int32) = nI 1 from rfl) (show 1 < 5 by decide) (by decide)) (by rw [(show (SH 434).1 = 20 by rw [sh434])]; rfl) ?_
          have w27 : HW (sI (sI (sI h13 397 40 1) 434 0 r15) 434 1 r6) := HW_sI w25
          refine e_ld (pc' := 78) i173_77 rfl rfl ?_
          refine e_ld (pc' := 79) i173_78 rfl rfl ?_
          obtain ⟨h22, s23, H⟩ := H
          have w31q := HW_sp (show x_okm 172 = true by rfl) s23 w27
          have w31 : HW h22 := w31q.1
          refine e_cV (As := [.ref 397, .int r6]) (rest := []) (pc' := 82) i173_79 rfl rfl rfl rfl (by show (Nat.beq (x_kd 172) 0 && x_is 397 _ (MC 172) 0) = true; rw [show x_kd 172 = 0 by decide +kernel, show MC 172 = 11 by decide +kernel, (x_isC (by decide) w27.1 sh397)]; rfl) s23 ?_
          refine e_ld (pc' := 83) i173_82 rfl rfl ?_
          refine e_rt i173_83 rfl ?_
          exact H
        · have d25 : ¬ ((r15 + r6) ≤ x) := (of_decide_eq_false c17)
          replace H := H.2 d25
          refine e_cn (pc' := 57) i173_56 rfl ?_
          refine e_rt i173_57 rfl ?_
          exact H
      · have d26 : ¬ (r6 ≤ x) := (of_decide_eq_false c11)
        replace H := H.2 d26
        refine e_cn (pc' := 41) i173_40 rfl ?_
        refine e_rt i173_41 rfl ?_
        exact H
  · have d27 : ¬ ((x_in3 x 1 400) = true) := (show ¬ (x_in3 x 1 400) = true by rw [c1]; decide)
    replace H := H.2 d27
    refine e_ld (pc' := 12) i173_11 rfl rfl ?_
    refine e_cn (pc' := 14) i173_12 rfl ?_
    obtain ⟨r30, h28, s29, H⟩ := H
    have w32q := HW_sp (show x_okm 124 = true by rfl) s29 hw
    have w32 : HW h28 := w32q.1
    refine e_cI (w := .int r30) (As := [.ref 397, .int (-6)]) (rest := []) (pc' := 17) i173_14 rfl rfl rfl rfl (by show (Nat.beq (x_kd 124) 0 && x_is 397 _ (MC 124) 0) = true; rw [show x_kd 124 = 0 by decide +kernel, show MC 124 = 11 by decide +kernel, (x_isC (by decide) hw.1 sh397)]; rfl) s29 ?_
    refine e_rt i173_17 rfl ?_
    exact H
-- FloorTurnModel.turned(I)I
set_option maxHeartbeats 8000000 in
set_option maxRecDepth 100000 in
theorem v174 {L : Nat} {xs : Nat → Int32} {Q : Option Value → Hp → Prop} {h : Hp} {x : Int32} (hw : HW h) 
  (H : (((gI h 397 40) = 0) → (Q (some (.int (-1))) h)) ∧ (¬ ((gI h 397 40) = 0) → ((((x_in3 x 0 4) = true) → (∃ k7 : Nat, x = nI k7 ∧ k7 < 5 ∧ Q (some (.int (gI h 434 k7))) h)) ∧ (¬ ((x_in3 x 0 4) = true) → (Q (some (.int (-1))) h))))) : ∃ r h', Sp L xs 174 [.ref 397, .int x] h r h' ∧ Q r h' := by
  refine sp_ex (ls := [some (.ref 397), some (.int x)]) rfl ?_
  refine e_ld (pc' := 1) i174_0 rfl rfl ?_
  refine e_get (w := .int (gI h 397 40)) (pc' := 4) i174_1 rfl (x_isC (by decide) hw.1 sh397) rfl ?_
  refine e_if (pc' := 7) i174_4 rfl (fun c1 => ?_) (fun c1 => ?_)
  · have d2 : (gI h 397 40) = 0 := (of_decide_eq_true c1)
    replace H := H.1 d2
    refine e_cn (pc' := 26) i174_25 rfl ?_
    refine e_rt i174_26 rfl ?_
    exact H
  · have d3 : ¬ ((gI h 397 40) = 0) := (of_decide_eq_false c1)
    replace H := H.2 d3
    refine e_ld (pc' := 8) i174_7 rfl rfl ?_
    refine e_cn (pc' := 9) i174_8 rfl ?_
    refine e_cn (pc' := 10) i174_9 rfl ?_
    refine e_cI (w := .int (b2i (x_in3 x 0 4))) (As := [.int x, .int 0, .int 4]) (rest := []) (pc' := 13) i174_10 rfl rfl rfl rfl rfl m123 ?_
    refine e_b0 (pc' := 16) i174_13 rfl (fun c4 => ?_) (fun c4 => ?_)
    · have d5 : ¬ ((x_in3 x 0 4) = true) := (show ¬ (x_in3 x 0 4) = true by rw [c4]; decide)
      replace H := H.2 d5
      refine e_cn (pc' := 26) i174_25 rfl ?_
      refine e_rt i174_26 rfl ?_
      exact H
    · have d6 : (x_in3 x 0 4) = true := c4
      replace H := H.1 d6
      refine e_ld (pc' := 17) i174_16 rfl rfl ?_
      refine e_get (w := .ref 434) (pc' := 20) i174_17 rfl (x_isC (by decide) hw.1 sh397) (x_fvR (by decide +kernel) (hw.2 397 41 434 lk397_41)) ?_
      refine e_ld (pc' := 21) i174_20 rfl rfl ?_
      obtain ⟨k7, e8, g9, H⟩ := H
      refine e_al (n := k7) (w := .int (gI h 434 k7)) (pc' := 22) i174_21 rfl (x_alE (a := 20) (by decide) hw.1 sh434 (by decide) e8 g9 (by decide)) (x_clE e8 g9 (by decide)) rfl ?_
      refine e_go i174_22 ?_
      refine e_rt i174_26 rfl ?_
      exact H
-- FloorTurnModel.cellTurn(II)I
set_option maxHeartbeats 8000000 in
set_option maxRecDepth 100000 in
theorem v175 {L : Nat} {xs : Nat → Int32} {Q : Option Value → Hp → Prop} {h : Hp} {x : Int32} {y : Int32} (hw : HW h) 
  (H : (((gI h 397 40) = 0) → (Q (some (.int (-1))) h)) ∧ (¬ ((gI h 397 40) = 0) → ((((x_isCell x) = true) → (∃ k7 : Nat, x = nI k7 ∧ k7 < 144 ∧ (((gI h 436 k7) = 0) → (Q (some (.int (-1))) h)) ∧ (¬ ((gI h 436 k7) = 0) → ((((x_in3 y 0 4) = true) → (∃ k16 : Nat, ((5 * x) + y) = nI k16 ∧ k16 < 720 ∧ Q (some (.int (gI h 435 k16))) h)) ∧ (¬ ((x_in3 y 0 4) = true) → (Q (some (.int (-1))) h)))))) ∧ (¬ ((x_isCell x) = true) → (Q (some (.int (-1))) h))))) : ∃ r h', Sp L xs 175 [.ref 397, .int x, .int y] h r h' ∧ Q r h' := by
  refine sp_ex (ls := [some (.ref 397), some (.int x), some (.int y)]) rfl ?_
  refine e_ld (pc' := 1) i175_0 rfl rfl ?_
  refine e_get (w := .int (gI h 397 40)) (pc' := 4) i175_1 rfl (x_isC (by decide) hw.1 sh397) rfl ?_
  refine e_if (pc' := 7) i175_4 rfl (fun c1 => ?_) (fun c1 => ?_)
  · have d2 : (gI h 397 40) = 0 := (of_decide_eq_true c1)
    replace H := H.1 d2
    refine e_cn (pc' := 46) i175_45 rfl ?_
    refine e_rt i175_46 rfl ?_
    exact H
  · have d3 : ¬ ((gI h 397 40) = 0) := (of_decide_eq_false c1)
    replace H := H.2 d3
    refine e_ld (pc' := 8) i175_7 rfl rfl ?_
    refine e_cI (w := .int (b2i (x_isCell x))) (As := [.int x]) (rest := []) (pc' := 11) i175_8 rfl rfl rfl rfl rfl m125 ?_
    refine e_b0 (pc' := 14) i175_11 rfl (fun c4 => ?_) (fun c4 => ?_)
    · have d5 : ¬ ((x_isCell x) = true) := (show ¬ (x_isCell x) = true by rw [c4]; decide)
      replace H := H.2 d5
      refine e_cn (pc' := 46) i175_45 rfl ?_
      refine e_rt i175_46 rfl ?_
      exact H
    · have d6 : (x_isCell x) = true := c4
      replace H := H.1 d6
      refine e_ld (pc' := 15) i175_14 rfl rfl ?_
      refine e_get (w := .ref 436) (pc' := 18) i175_15 rfl (x_isC (by decide) hw.1 sh397) (x_fvR (by decide +kernel) (hw.2 397 43 436 lk397_43)) ?_
      refine e_ld (pc' := 19) i175_18 rfl rfl ?_
      obtain ⟨k7, e8, g9, H⟩ := H
      refine e_al (n := k7) (w := .int (gI h 436 k7)) (pc' := 20) i175_19 rfl (x_alE (a := 22) (by decide) hw.1 sh436 (by decide) e8 g9 (by decide)) (x_clE e8 g9 (by decide)) rfl ?_
      refine e_if (pc' := 23) i175_20 rfl (fun c10 => ?_) (fun c10 => ?_)
      · have d11 : (gI h 436 k7) = 0 := (of_decide_eq_true c10)
        replace H := H.1 d11
        refine e_cn (pc' := 46) i175_45 rfl ?_
        refine e_rt i175_46 rfl ?_
        exact H
      · have d12 : ¬ ((gI h 436 k7) = 0) := (of_decide_eq_false c10)
        replace H := H.2 d12
        refine e_ld (pc' := 24) i175_23 rfl rfl ?_
        refine e_cn (pc' := 25) i175_24 rfl ?_
        refine e_cn (pc' := 26) i175_25 rfl ?_
        refine e_cI (w := .int (b2i (x_in3 y 0 4))) (As := [.int y, .int 0, .int 4]) (rest := []) (pc' := 29) i175_26 rfl rfl rfl rfl rfl m123 ?_
        refine e_b0 (pc' := 32) i175_29 rfl (fun c13 => ?_) (fun c13 => ?_)
        · have d14 : ¬ ((x_in3 y 0 4) = true) := (show ¬ (x_in3 y 0 4) = true by rw [c13]; decide)
          replace H := H.2 d14
          refine e_cn (pc' := 46) i175_45 rfl ?_
          refine e_rt i175_46 rfl ?_
          exact H
        · have d15 : (x_in3 y 0 4) = true := c13
          replace H := H.1 d15
          refine e_ld (pc' := 33) i175_32 rfl rfl ?_
          refine e_get (w := .ref 435) (pc' := 36) i175_33 rfl (x_isC (by decide) hw.1 sh397) (x_fvR (by decide +kernel) (hw.2 397 42 435 lk397_42)) ?_
          refine e_cn (pc' := 37) i175_36 rfl ?_
          refine e_ld (pc' := 38) i175_37 rfl rfl ?_
          refine e_ib (z := 5 * x) (pc' := 39) i175_38 rfl rfl ?_
          refine e_ld (pc' := 40) i175_39 rfl rfl ?_
          refine e_ib (z := (5 * x) + y) (pc' := 41) i175_40 rfl rfl ?_
          obtain ⟨k16, e17, g18, H⟩ := H
          refine e_al (n := k16) (w := .int (gI h 435 k16)) (pc' := 42) i175_41 rfl (x_alE (a := 20) (by decide) hw.1 sh435 (by decide) e17 g18 (by decide)) (x_clE e17 g18 (by decide)) rfl ?_
          refine e_go i175_42 ?_
          refine e_rt i175_46 rfl ?_
          exact H
-- FloorTurnModel.part(II)I
set_option maxHeartbeats 8000000 in
set_option maxRecDepth 100000 in
theorem v176 {L : Nat} {xs : Nat → Int32} {Q : Option Value → Hp → Prop} {h : Hp} {x : Int32} {y : Int32} (hw : HW h) 
  (H : (((x_isCell x) = true) → ((((x_in3 y 0 14) = true) → (∃ k6 : Nat, x = nI k6 ∧ k6 < 144 ∧ (((gI h 405 k6) = 0) → (Q (some (.int 0)) h)) ∧ (¬ ((gI h 405 k6) = 0) → (((y = 0) → (Q (some (.int (gI h 405 k6))) h)) ∧ (¬ (y = 0) → (((y = 1) → (Q (some (.int (gI h 406 k6))) h)) ∧ (¬ (y = 1) → (((y = 2) → (∃ (r15 : Int32), Sp L xs 156 [.ref 397, .int 0, .int x] h (some (.int r15)) h ∧ Q (some (.int r15)) h)) ∧ (¬ (y = 2) → (((y = 3) → (Q (some (.int (gI h 413 k6))) h)) ∧ (¬ (y = 3) → (((y = 4) → (Q (some (.int (gI h 414 k6))) h)) ∧ (¬ (y = 4) → (((y = 5) → (Q (some (.int (gI h 415 k6))) h)) ∧ (¬ (y = 5) → (((y = 6) → (Q (some (.int (b2i (if (gI h 416 k6) = 0 then (false) else (true))))) h)) ∧ (¬ (y = 6) → (((y = 7) → (∃ k25 : Nat, (2 * x) = nI k25 ∧ k25 < 864 ∧ Q (some (.int (gI h 417 k25))) h)) ∧ (¬ (y = 7) → (((y = 8) → (∃ k29 : Nat, ((2 * x) + 1) = nI k29 ∧ k29 < 864 ∧ Q (some (.int (gI h 417 k29))) h)) ∧ (¬ (y = 8) → (((y = 9) → (Q (some (.int (gI h 418 k6))) h)) ∧ (¬ (y = 9) → (((y = 10) → (Q (some (.int (gI h 419 k6))) h)) ∧ (¬ (y = 10) → (((y = 11) → (Q (some (.int (gI h 407 k6))) h)) ∧ (¬ (y = 11) → (((y = 12) → (Q (some (.int (gI h 408 k6))) h)) ∧ (¬ (y = 12) → (((y = 13) → (Q (some (.int (gI h 409 k6))) h)) ∧ (¬ (y = 13) → (Q (some (.int (gI h 410 k6))) h)))))))))))))))))))))))))))))))) ∧ (¬ ((x_in3 y 0 14) = true) → (Q (some (.int (-1))) h)))) ∧ (¬ ((x_isCell x) = true) → (Q (some (.int (-1))) h))) : ∃ r h', Sp L xs 176 [.ref 397, .int x, .int y] h r h' ∧ Q r h' := by
  refine sp_ex (ls := [some (.ref 397), some (.int x), some (.int y)]) rfl ?_
  refine e_ld (pc' := 1) i176_0 rfl rfl ?_
  refine e_cI (w := .int (b2i (x_isCell x))) (As := [.int x]) (rest := []) (pc' := 4) i176_1 rfl rfl rfl rfl rfl m125 ?_
  refine e_b0 (pc' := 7) i176_4 rfl (fun c1 => ?_) (fun c1 => ?_)
  · have d2 : ¬ ((x_isCell x) = true) := (show ¬ (x_isCell x) = true by rw [c1]; decide)
    replace H := H.2 d2
    refine e_cn (pc' := 18) i176_17 rfl ?_
    refine e_rt i176_18 rfl ?_
    exact H
  · have d3 : (x_isCell x) = true := c1
    replace H := H.1 d3
    refine e_ld (pc' := 8) i176_7 rfl rfl ?_
    refine e_cn (pc' := 9) i176_8 rfl ?_
    refine e_cn (pc' := 11) i176_9 rfl ?_
    refine e_cI (w := .int (b2i (x_in3 y 0 14))) (As := [.int y, .int 0, .int 14]) (rest := []) (pc' := 14) i176_11 rfl rfl rfl rfl rfl m123 ?_
    refine e_b1 (pc' := 17) i176_14 rfl (fun c4 => ?_) (fun c4 => ?_)
    · have d5 : (x_in3 y 0 14) = true := c4
      replace H := H.1 d5
      refine e_ld (pc' := 20) i176_19 rfl rfl ?_
      refine e_get (w := .ref 405) (pc' := 23) i176_20 rfl (x_isC (by decide) hw.1 sh397) (x_fvR (by decide +kernel) (hw.2 397 8 405 lk397_8)) ?_
      refine e_ld (pc' := 24) i176_23 rfl rfl ?_
      obtain ⟨k6, e7, g8, H⟩ := H
      refine e_al (n := k6) (w := .int (gI h 405 k6)) (pc' := 25) i176_24 rfl (x_alE (a := 20) (by decide) hw.1 sh405 (by decide) e7 g8 (by decide)) (x_clE e7 g8 (by decide)) rfl ?_
      refine e_if (pc' := 28) i176_25 rfl (fun c9 => ?_) (fun c9 => ?_)
      · have d10 : ¬ ((gI h 405 k6) = 0) := (of_decide_eq_true c9)
        replace H := H.2 d10
        refine e_ld (pc' := 31) i176_30 rfl rfl ?_
        by_cases c11 : y = 0
        · replace H := H.1 c11
          refine e_tab (pc' := 100) i176_31 (by rw [c11]; rfl) ?_
          refine e_ld (pc' := 101) i176_100 rfl rfl ?_
          refine e_get (w := .ref 405) (pc' := 104) i176_101 rfl (x_isC (by decide) hw.1 sh397) (x_fvR (by decide +kernel) (hw.2 397 8 405 lk397_8)) ?_
          refine e_ld (pc' := 105) i176_104 rfl rfl ?_
          refine e_al (n := k6) (w := .int (gI h 405 k6)) (pc' := 106) i176_105 rfl (x_alE (a := 20) (by decide) hw.1 sh405 (by decide) e7 g8 (by decide)) (x_clE e7 g8 (by decide)) rfl ?_
          refine e_rt i176_106 rfl ?_
          exact H
        · replace H := H.2 c11
          by_cases c12 : y = 1
          · replace H := H.1 c12
            refine e_tab (pc' := 107) i176_31 (by rw [c12]; rfl) ?_
            refine e_ld (pc' := 108) i176_107 rfl rfl ?_
            refine e_get (w := .ref 406) (pc' := 111) i176_108 rfl (x_isC (by decide) hw.1 sh397) (x_fvR (by decide +kernel) (hw.2 397 9 406 lk397_9)) ?_
            refine e_ld (pc' := 112) i176_111 rfl rfl ?_
            refine e_al (n := k6) (w := .int (gI h 406 k6)) (pc' := 113) i176_112 rfl (x_alE (a := 20) (by decide) hw.1 sh406 (by decide) e7 g8 (by decide)) (x_clE e7 g8 (by decide)) rfl ?_
            refine e_rt i176_113 rfl ?_
            exact H
          · replace H := H.2 c12
            by_cases c13 : y = 2
            · replace H := H.1 c13
              refine e_tab (pc' := 114) i176_31 (by rw [c13]; rfl) ?_
              refine e_ld (pc' := 115) i176_114 rfl rfl ?_
              refine e_cn (pc' := 116) i176_115 rfl ?_
              refine e_ld (pc' := 117) i176_116 rfl rfl ?_
              obtain ⟨r15, s14, H⟩ := H
              refine e_cI (w := .int r15) (As := [.ref 397, .int 0, .int x]) (rest := []) (pc' := 120) i176_117 rfl rfl rfl rfl (by show (Nat.beq (x_kd 156) 0 && x_is 397 _ (MC 156) 0) = true; rw [show x_kd 156 = 0 by decide +kernel, show MC 156 = 11 by decide +kernel, (x_isC (by decide) hw.1 sh397)]; rfl) s14 ?_
              refine e_rt i176_120 rfl ?_
              exact H
            · replace H := H.2 c13
              by_cases c16 : y = 3
              · replace H := H.1 c16
                refine e_tab (pc' := 121) i176_31 (by rw [c16]; rfl) ?_
                refine e_ld (pc' := 122) i176_121 rfl rfl ?_
                refine e_get (w := .ref 413) (pc' := 125) i176_122 rfl (x_isC (by decide) hw.1 sh397) (x_fvR (by decide +kernel) (hw.2 397 17 413 lk397_17)) ?_
                refine e_ld (pc' := 126) i176_125 rfl rfl ?_
                refine e_al (n := k6) (w := .int (gI h 413 k6)) (pc' := 127) i176_126 rfl (x_alE (a := 20) (by decide) hw.1 sh413 (by decide) e7 (show k6 < 432 from Nat.lt_of_lt_of_le g8 (by decide)) (by decide)) (x_clE e7 (show k6 < 432 from Nat.lt_of_lt_of_le g8 (by decide)) (by decide)) rfl ?_
                refine e_rt i176_127 rfl ?_
                exact H
              · replace H := H.2 c16
                by_cases c17 : y = 4
                · replace H := H.1 c17
                  refine e_tab (pc' := 128) i176_31 (by rw [c17]; rfl) ?_
                  refine e_ld (pc' := 129) i176_128 rfl rfl ?_
                  refine e_get (w := .ref 414) (pc' := 132) i176_129 rfl (x_isC (by decide) hw.1 sh397) (x_fvR (by decide +kernel) (hw.2 397 18 414 lk397_18)) ?_
                  refine e_ld (pc' := 133) i176_132 rfl rfl ?_
                  refine e_al (n := k6) (w := .int (gI h 414 k6)) (pc' := 134) i176_133 rfl (x_alE (a := 20) (by decide) hw.1 sh414 (by decide) e7 (show k6 < 432 from Nat.lt_of_lt_of_le g8 (by decide)) (by decide)) (x_clE e7 (show k6 < 432 from Nat.lt_of_lt_of_le g8 (by decide)) (by decide)) rfl ?_
                  refine e_rt i176_134 rfl ?_
                  exact H
                · replace H := H.2 c17
                  by_cases c18 : y = 5
                  · replace H := H.1 c18
                    refine e_tab (pc' := 135) i176_31 (by rw [c18]; rfl) ?_
                    refine e_ld (pc' := 136) i176_135 rfl rfl ?_
                    refine e_get (w := .ref 415) (pc' := 139) i176_136 rfl (x_isC (by decide) hw.1 sh397) (x_fvR (by decide +kernel) (hw.2 397 19 415 lk397_19)) ?_
                    refine e_ld (pc' := 140) i176_139 rfl rfl ?_
                    refine e_al (n := k6) (w := .int (gI h 415 k6)) (pc' := 141) i176_140 rfl (x_alE (a := 20) (by decide) hw.1 sh415 (by decide) e7 (show k6 < 432 from Nat.lt_of_lt_of_le g8 (by decide)) (by decide)) (x_clE e7 (show k6 < 432 from Nat.lt_of_lt_of_le g8 (by decide)) (by decide)) rfl ?_
                    refine e_rt i176_141 rfl ?_
                    exact H
                  · replace H := H.2 c18
                    by_cases c19 : y = 6
                    · replace H := H.1 c19
                      refine e_tab (pc' := 142) i176_31 (by rw [c19]; rfl) ?_
                      refine e_ld (pc' := 143) i176_142 rfl rfl ?_
                      refine e_get (w := .ref 416) (pc' := 146) i176_143 rfl (x_isC (by decide) hw.1 sh397) (x_fvR (by decide +kernel) (hw.2 397 20 416 lk397_20)) ?_
                      refine e_ld (pc' := 147) i176_146 rfl rfl ?_
                      refine e_al (n := k6) (w := .int (gI h 416 k6)) (pc' := 148) i176_147 rfl (x_alE (a := 22) (by decide) hw.1 sh416 (by decide) e7 (show k6 < 432 from Nat.lt_of_lt_of_le g8 (by decide)) (by decide)) (x_clE e7 (show k6 < 432 from Nat.lt_of_lt_of_le g8 (by decide)) (by decide)) rfl ?_
                      refine e_reg (pc' := 156) (ls' := [some (.ref 397), some (.int x), some (.int y)]) (st' := [.int (b2i (if (gI h 416 k6) = 0 then (false) else (true)))]) (fun kj20 => ?_) ?_
                      · skip
                        refine e_if (pc' := 151) i176_148 rfl (fun c21 => ?_) (fun c21 => ?_)
                        · have d22 : (gI h 416 k6) = 0 := (of_decide_eq_true c21)
                          refine e_cn (pc' := 156) i176_155 rfl ?_
                          exact (by simp only [if_pos d22] at kj20 ⊢; exact kj20)
                        · have d23 : ¬ ((gI h 416 k6) = 0) := (of_decide_eq_false c21)
                          refine e_cn (pc' := 152) i176_151 rfl ?_
                          refine e_go i176_152 ?_
                          exact (by simp only [if_neg d23] at kj20 ⊢; exact kj20)
                      refine e_rt i176_156 rfl ?_
                      exact H
                    · replace H := H.2 c19
                      by_cases c24 : y = 7
                      · replace H := H.1 c24
                        refine e_tab (pc' := 157) i176_31 (by rw [c24]; rfl) ?_
                        refine e_ld (pc' := 158) i176_157 rfl rfl ?_
                        refine e_get (w := .ref 417) (pc' := 161) i176_158 rfl (x_isC (by decide) hw.1 sh397) (x_fvR (by decide +kernel) (hw.2 397 21 417 lk397_21)) ?_
                        refine e_cn (pc' := 162) i176_161 rfl ?_
                        refine e_ld (pc' := 163) i176_162 rfl rfl ?_
                        refine e_ib (z := 2 * x) (pc' := 164) i176_163 rfl rfl ?_
                        obtain ⟨k25, e26, g27, H⟩ := H
                        refine e_al (n := k25) (w := .int (gI h 417 k25)) (pc' := 165) i176_164 rfl (x_alE (a := 20) (by decide) hw.1 sh417 (by decide) e26 g27 (by decide)) (x_clE e26 g27 (by decide)) rfl ?_
                        refine e_rt i176_165 rfl ?_
                        exact H
                      · replace H := H.2 c24
                        by_cases c28 : y = 8
                        · replace H := H.1 c28
                          refine e_tab (pc' := 166) i176_31 (by rw [c28]; rfl) ?_
                          refine e_ld (pc' := 167) i176_166 rfl rfl ?_
                          refine e_get (w := .ref 417) (pc' := 170) i176_167 rfl (x_isC (by decide) hw.1 sh397) (x_fvR (by decide +kernel) (hw.2 397 21 417 lk397_21)) ?_
                          refine e_cn (pc' := 171) i176_170 rfl ?_
                          refine e_ld (pc' := 172) i176_171 rfl rfl ?_
                          refine e_ib (z := 2 * x) (pc' := 173) i176_172 rfl rfl ?_
                          refine e_cn (pc' := 174) i176_173 rfl ?_
                          refine e_ib (z := (2 * x) + 1) (pc' := 175) i176_174 rfl rfl ?_
                          obtain ⟨k29, e30, g31, H⟩ := H
                          refine e_al (n := k29) (w := .int (gI h 417 k29)) (pc' := 176) i176_175 rfl (x_alE (a := 20) (by decide) hw.1 sh417 (by decide) e30 g31 (by decide)) (x_clE e30 g31 (by decide)) rfl ?_
                          refine e_rt i176_176 rfl ?_
                          exact H
                        · replace H := H.2 c28
                          by_cases c32 : y = 9
                          · replace H := H.1 c32
                            refine e_tab (pc' := 177) i176_31 (by rw [c32]; rfl) ?_
                            refine e_ld (pc' := 178) i176_177 rfl rfl ?_
                            refine e_get (w := .ref 418) (pc' := 181) i176_178 rfl (x_isC (by decide) hw.1 sh397) (x_fvR (by decide +kernel) (hw.2 397 22 418 lk397_22)) ?_
                            refine e_ld (pc' := 182) i176_181 rfl rfl ?_
                            refine e_al (n := k6) (w := .int (gI h 418 k6)) (pc' := 183) i176_182 rfl (x_alE (a := 20) (by decide) hw.1 sh418 (by decide) e7 (show k6 < 432 from Nat.lt_of_lt_of_le g8 (by decide)) (by decide)) (x_clE e7 (show k6 < 432 from Nat.lt_of_lt_of_le g8 (by decide)) (by decide)) rfl ?_
                            refine e_rt i176_183 rfl ?_
                            exact H
                          · replace H := H.2 c32
                            by_cases c33 : y = 10
                            · replace H := H.1 c33
                              refine e_tab (pc' := 184) i176_31 (by rw [c33]; rfl) ?_
                              refine e_ld (pc' := 185) i176_184 rfl rfl ?_
                              refine e_get (w := .ref 419) (pc' := 188) i176_185 rfl (x_isC (by decide) hw.1 sh397) (x_fvR (by decide +kernel) (hw.2 397 23 419 lk397_23)) ?_
                              refine e_ld (pc' := 189) i176_188 rfl rfl ?_
                              refine e_al (n := k6) (w := .int (gI h 419 k6)) (pc' := 190) i176_189 rfl (x_alE (a := 20) (by decide) hw.1 sh419 (by decide) e7 (show k6 < 432 from Nat.lt_of_lt_of_le g8 (by decide)) (by decide)) (x_clE e7 (show k6 < 432 from Nat.lt_of_lt_of_le g8 (by decide)) (by decide)) rfl ?_
                              refine e_rt i176_190 rfl ?_
                              exact H
                            · replace H := H.2 c33
                              by_cases c34 : y = 11
                              · replace H := H.1 c34
                                refine e_tab (pc' := 191) i176_31 (by rw [c34]; rfl) ?_
                                refine e_ld (pc' := 192) i176_191 rfl rfl ?_
                                refine e_get (w := .ref 407) (pc' := 195) i176_192 rfl (x_isC (by decide) hw.1 sh397) (x_fvR (by decide +kernel) (hw.2 397 10 407 lk397_10)) ?_
                                refine e_ld (pc' := 196) i176_195 rfl rfl ?_
                                refine e_al (n := k6) (w := .int (gI h 407 k6)) (pc' := 197) i176_196 rfl (x_alE (a := 20) (by decide) hw.1 sh407 (by decide) e7 g8 (by decide)) (x_clE e7 g8 (by decide)) rfl ?_
                                refine e_rt i176_197 rfl ?_
                                exact H
                              · replace H := H.2 c34
                                by_cases c35 : y = 12
                                · replace H := H.1 c35
                                  refine e_tab (pc' := 198) i176_31 (by rw [c35]; rfl) ?_
                                  refine e_ld (pc' := 199) i176_198 rfl rfl ?_
                                  refine e_get (w := .ref 408) (pc' := 202) i176_199 rfl (x_isC (by decide) hw.1 sh397) (x_fvR (by decide +kernel) (hw.2 397 11 408 lk397_11)) ?_
                                  refine e_ld (pc' := 203) i176_202 rfl rfl ?_
                                  refine e_al (n := k6) (w := .int (gI h 408 k6)) (pc' := 204) i176_203 rfl (x_alE (a := 20) (by decide) hw.1 sh408 (by decide) e7 g8 (by decide)) (x_clE e7 g8 (by decide)) rfl ?_
                                  refine e_rt i176_204 rfl ?_
                                  exact H
                                · replace H := H.2 c35
                                  by_cases c36 : y = 13
                                  · replace H := H.1 c36
                                    refine e_tab (pc' := 205) i176_31 (by rw [c36]; rfl) ?_
                                    refine e_ld (pc' := 206) i176_205 rfl rfl ?_
                                    refine e_get (w := .ref 409) (pc' := 209) i176_206 rfl (x_isC (by decide) hw.1 sh397) (x_fvR (by decide +kernel) (hw.2 397 12 409 lk397_12)) ?_
                                    refine e_ld (pc' := 210) i176_209 rfl rfl ?_
                                    refine e_al (n := k6) (w := .int (gI h 409 k6)) (pc' := 211) i176_210 rfl (x_alE (a := 20) (by decide) hw.1 sh409 (by decide) e7 g8 (by decide)) (x_clE e7 g8 (by decide)) rfl ?_
                                    refine e_rt i176_211 rfl ?_
                                    exact H
                                  · replace H := H.2 c36
                                    refine e_tab (pc' := 212) i176_31 (x_tgt_out (by decide) (fun k (hk : k < 14) => by rcases (show k = 0 ∨ k = 1 ∨ k = 2 ∨ k = 3 ∨ k = 4 ∨ k = 5 ∨ k = 6 ∨ k = 7 ∨ k = 8 ∨ k = 9 ∨ k = 10 ∨ k = 11 ∨ k = 12 ∨ k = 13 by omega) with rfl | rfl | rfl | rfl | rfl | rfl | rfl | rfl | rfl | rfl | rfl | rfl | rfl | rfl <;> assumption)) ?_
                                    refine e_ld (pc' := 213) i176_212 rfl rfl ?_
                                    refine e_get (w := .ref 410) (pc' := 216) i176_213 rfl (x_isC (by decide) hw.1 sh397) (x_fvR (by decide +kernel) (hw.2 397 13 410 lk397_13)) ?_
                                    refine e_ld (pc' := 217) i176_216 rfl rfl ?_
                                    refine e_al (n := k6) (w := .int (gI h 410 k6)) (pc' := 218) i176_217 rfl (x_alE (a := 20) (by decide) hw.1 sh410 (by decide) e7 g8 (by decide)) (x_clE e7 g8 (by decide)) rfl ?_
                                    refine e_rt i176_218 rfl ?_
                                    exact H
      · have d37 : (gI h 405 k6) = 0 := (Decidable.not_not.mp (of_decide_eq_false c9))
        replace H := H.1 d37
        refine e_cn (pc' := 29) i176_28 rfl ?_
        refine e_rt i176_29 rfl ?_
        exact H
    · have d38 : ¬ ((x_in3 y 0 14) = true) := (show ¬ (x_in3 y 0 14) = true by rw [c4]; decide)
      replace H := H.2 d38
      refine e_cn (pc' := 18) i176_17 rfl ?_
      refine e_rt i176_18 rfl ?_
      exact H
-- FloorTurnModel.sunk(I)I
set_option maxHeartbeats 8000000 in
set_option maxRecDepth 100000 in
theorem v177 {L : Nat} {xs : Nat → Int32} {Q : Option Value → Hp → Prop} {h : Hp} {x : Int32} (hw : HW h) 
  (H : (((x_isItem x) = true) → (∃ k4 : Nat, x = nI k4 ∧ k4 < 21 ∧ Q (some (.int (gI h 411 k4))) h)) ∧ (¬ ((x_isItem x) = true) → (Q (some (.int 0)) h))) : ∃ r h', Sp L xs 177 [.ref 397, .int x] h r h' ∧ Q r h' := by
  refine sp_ex (ls := [some (.ref 397), some (.int x)]) rfl ?_
  refine e_ld (pc' := 1) i177_0 rfl rfl ?_
  refine e_cI (w := .int (b2i (x_isItem x))) (As := [.int x]) (rest := []) (pc' := 4) i177_1 rfl rfl rfl rfl rfl m126 ?_
  refine e_b0 (pc' := 7) i177_4 rfl (fun c1 => ?_) (fun c1 => ?_)
  · have d2 : ¬ ((x_isItem x) = true) := (show ¬ (x_isItem x) = true by rw [c1]; decide)
    replace H := H.2 d2
    refine e_cn (pc' := 17) i177_16 rfl ?_
    refine e_rt i177_17 rfl ?_
    exact H
  · have d3 : (x_isItem x) = true := c1
    replace H := H.1 d3
    refine e_ld (pc' := 8) i177_7 rfl rfl ?_
    refine e_get (w := .ref 411) (pc' := 11) i177_8 rfl (x_isC (by decide) hw.1 sh397) (x_fvR (by decide +kernel) (hw.2 397 15 411 lk397_15)) ?_
    refine e_ld (pc' := 12) i177_11 rfl rfl ?_
    obtain ⟨k4, e5, g6, H⟩ := H
    refine e_al (n := k4) (w := .int (gI h 411 k4)) (pc' := 13) i177_12 rfl (x_alE (a := 20) (by decide) hw.1 sh411 (by decide) e5 g6 (by decide)) (x_clE e5 g6 (by decide)) rfl ?_
    refine e_go i177_13 ?_
    refine e_rt i177_17 rfl ?_
    exact H
-- FloorTurnModel.divisor(JJ)J
set_option maxHeartbeats 8000000 in
set_option maxRecDepth 100000 in
theorem v178 {L : Nat} {xs : Nat → Int32} {Q : Option Value → Hp → Prop} {h : Hp} {x : Int64} {y : Int64} (hw : HW h) 
  (H : WP L xs 178 6 [some (.long x), none, some (.long y), none, some (.long x), none, some (.long y), none, none, none] [] h Q) : ∃ r h', Sp L xs 178 [.long x, .long y] h r h' ∧ Q r h' := by
  refine sp_ex (ls := [some (.long x), none, some (.long y), none, none, none, none, none, none, none]) rfl ?_
  refine e_ld (pc' := 1) i178_0 rfl rfl ?_
  refine e_st (ls' := [some (.long x), none, some (.long y), none, some (.long x), none, none, none, none, none]) (pc' := 3) i178_1 rfl rfl rfl ?_
  refine e_ld (pc' := 4) i178_3 rfl rfl ?_
  refine e_st (ls' := [some (.long x), none, some (.long y), none, some (.long x), none, some (.long y), none, none, none]) (pc' := 6) i178_4 rfl rfl rfl ?_
  exact H
set_option maxHeartbeats 8000000 in
set_option maxRecDepth 100000 in
theorem v178_6 {L : Nat} {xs : Nat → Int32} {Q : Option Value → Hp → Prop} {h : Hp} {z0 : Option Value} {z1 : Option Value} {z2 : Option Value} {z3 : Option Value} {l4 : Int64} {l6 : Int64} {z8 : Option Value} {z9 : Option Value} (hw : HW h)  (z3_z : x_wide (some z3) = false)
  (H : (((lg_cmp l6 0) = 0) → (Q (some (.long l4)) h)) ∧ (¬ ((lg_cmp l6 0) = 0) → ((¬ l6 = 0) ∧ WP L xs 178 6 [z0, z1, z2, z3, some (.long l6), none, some (.long (l4 - l4 / l6 * l6)), none, some (.long (l4 - l4 / l6 * l6)), none] [] h Q))) : WP L xs 178 6 [z0, z1, z2, z3, some (.long l4), none, some (.long l6), none, z8, z9] [] h Q := by
  refine e_ld (pc' := 8) i178_6 rfl rfl ?_
  refine e_cn (pc' := 9) i178_8 rfl ?_
  refine e_lcmp (pc' := 10) i178_9 rfl ?_
  refine e_if (pc' := 13) i178_10 rfl (fun c1 => ?_) (fun c1 => ?_)
  · have d2 : (lg_cmp l6 0) = 0 := (of_decide_eq_true c1)
    replace H := H.1 d2
    refine e_ld (pc' := 33) i178_31 rfl rfl ?_
    refine e_rt i178_33 rfl ?_
    exact H
  · have d3 : ¬ ((lg_cmp l6 0) = 0) := (of_decide_eq_false c1)
    replace H := H.2 d3
    refine e_ld (pc' := 15) i178_13 rfl rfl ?_
    refine e_ld (pc' := 17) i178_15 rfl rfl ?_
    obtain ⟨g4, H⟩ := H
    refine e_lb (z := l4 - l4 / l6 * l6) (pc' := 18) i178_17 rfl (x_lb_rem g4) ?_
    refine e_st (ls' := [z0, z1, z2, z3, some (.long l4), none, some (.long l6), none, some (.long (l4 - l4 / l6 * l6)), none]) (pc' := 20) i178_18 rfl rfl rfl ?_
    refine e_ld (pc' := 22) i178_20 rfl rfl ?_
    refine e_st (ls' := [z0, z1, z2, z3, some (.long l6), none, some (.long l6), none, some (.long (l4 - l4 / l6 * l6)), none]) (pc' := 24) i178_22 rfl rfl ((x_stzl (a := 3) rfl z3_z rfl).trans rfl) ?_
    refine e_ld (pc' := 26) i178_24 rfl rfl ?_
    refine e_st (ls' := [z0, z1, z2, z3, some (.long l6), none, some (.long (l4 - l4 / l6 * l6)), none, some (.long (l4 - l4 / l6 * l6)), none]) (pc' := 28) i178_26 rfl rfl rfl ?_
    refine e_go i178_28 ?_
    exact H
-- FloorTurnModel.wants(IJJ)V
set_option maxHeartbeats 8000000 in
set_option maxRecDepth 100000 in
theorem v179 {L : Nat} {xs : Nat → Int32} {Q : Option Value → Hp → Prop} {h : Hp} {x : Int32} {y : Int64} {z : Int64} (hw : HW h) 
  (H : ∃ k1 : Nat, x = nI k1 ∧ k1 < 21 ∧ ∃ (r5 : Int64), Sp L xs 178 [.long (((gL h 439 k1) * z) + (y * (gL h 440 k1))), .long ((gL h 440 k1) * z)] h (some (.long r5)) h ∧ (¬ r5 = 0) ∧ (¬ r5 = 0) ∧ Q none (sL (sL h 439 k1 ((((gL h 439 k1) * z) + (y * (gL h 440 k1))) / r5)) 440 k1 (((gL h 440 k1) * z) / r5))) : ∃ r h', Sp L xs 179 [.ref 397, .int x, .long y, .long z] h r h' ∧ Q r h' := by
  refine sp_ex (ls := [some (.ref 397), some (.int x), some (.long y), none, some (.long z), none, none, none, none, none, none, none]) rfl ?_
  refine e_ld (pc' := 1) i179_0 rfl rfl ?_
  refine e_get (w := .ref 439) (pc' := 4) i179_1 rfl (x_isC (by decide) hw.1 sh397) (x_fvR (by decide +kernel) (hw.2 397 46 439 lk397_46)) ?_
  refine e_ld (pc' := 5) i179_4 rfl rfl ?_
  obtain ⟨k1, e2, g3, H⟩ := H
  refine e_al (n := k1) (w := .long (gL h 439 k1)) (pc' := 6) i179_5 rfl (x_alE (a := 21) (by decide) hw.1 sh439 (by decide) e2 g3 (by decide)) (x_clE e2 g3 (by decide)) rfl ?_
  refine e_ld (pc' := 8) i179_6 rfl rfl ?_
  refine e_lb (z := (gL h 439 k1) * z) (pc' := 9) i179_8 rfl rfl ?_
  refine e_ld (pc' := 10) i179_9 rfl rfl ?_
  refine e_ld (pc' := 11) i179_10 rfl rfl ?_
  refine e_get (w := .ref 440) (pc' := 14) i179_11 rfl (x_isC (by decide) hw.1 sh397) (x_fvR (by decide +kernel) (hw.2 397 47 440 lk397_47)) ?_
  refine e_ld (pc' := 15) i179_14 rfl rfl ?_
  refine e_al (n := k1) (w := .long (gL h 440 k1)) (pc' := 16) i179_15 rfl (x_alE (a := 21) (by decide) hw.1 sh440 (by decide) e2 g3 (by decide)) (x_clE e2 g3 (by decide)) rfl ?_
  refine e_lb (z := y * (gL h 440 k1)) (pc' := 17) i179_16 rfl rfl ?_
  refine e_lb (z := ((gL h 439 k1) * z) + (y * (gL h 440 k1))) (pc' := 18) i179_17 rfl rfl ?_
  refine e_st (ls' := [some (.ref 397), some (.int x), some (.long y), none, some (.long z), none, some (.long (((gL h 439 k1) * z) + (y * (gL h 440 k1)))), none, none, none, none, none]) (pc' := 20) i179_18 rfl rfl rfl ?_
  refine e_ld (pc' := 21) i179_20 rfl rfl ?_
  refine e_get (w := .ref 440) (pc' := 24) i179_21 rfl (x_isC (by decide) hw.1 sh397) (x_fvR (by decide +kernel) (hw.2 397 47 440 lk397_47)) ?_
  refine e_ld (pc' := 25) i179_24 rfl rfl ?_
  refine e_al (n := k1) (w := .long (gL h 440 k1)) (pc' := 26) i179_25 rfl (x_alE (a := 21) (by decide) hw.1 sh440 (by decide) e2 g3 (by decide)) (x_clE e2 g3 (by decide)) rfl ?_
  refine e_ld (pc' := 28) i179_26 rfl rfl ?_
  refine e_lb (z := (gL h 440 k1) * z) (pc' := 29) i179_28 rfl rfl ?_
  refine e_st (ls' := [some (.ref 397), some (.int x), some (.long y), none, some (.long z), none, some (.long (((gL h 439 k1) * z) + (y * (gL h 440 k1)))), none, some (.long ((gL h 440 k1) * z)), none, none, none]) (pc' := 31) i179_29 rfl rfl rfl ?_
  refine e_ld (pc' := 33) i179_31 rfl rfl ?_
  refine e_ld (pc' := 35) i179_33 rfl rfl ?_
  obtain ⟨r5, s4, H⟩ := H
  refine e_cI (w := .long r5) (As := [.long (((gL h 439 k1) * z) + (y * (gL h 440 k1))), .long ((gL h 440 k1) * z)]) (rest := []) (pc' := 38) i179_35 rfl rfl rfl rfl rfl s4 ?_
  refine e_st (ls' := [some (.ref 397), some (.int x), some (.long y), none, some (.long z), none, some (.long (((gL h 439 k1) * z) + (y * (gL h 440 k1)))), none, some (.long ((gL h 440 k1) * z)), none, some (.long r5), none]) (pc' := 40) i179_38 rfl rfl rfl ?_
  refine e_ld (pc' := 41) i179_40 rfl rfl ?_
  refine e_get (w := .ref 439) (pc' := 44) i179_41 rfl (x_isC (by decide) hw.1 sh397) (x_fvR (by decide +kernel) (hw.2 397 46 439 lk397_46)) ?_
  refine e_ld (pc' := 45) i179_44 rfl rfl ?_
  refine e_ld (pc' := 47) i179_45 rfl rfl ?_
  refine e_ld (pc' := 49) i179_47 rfl rfl ?_
  obtain ⟨g6, H⟩ := H
  refine e_lb (z := (((gL h 439 k1) * z) + (y * (gL h 440 k1))) / r5) (pc' := 50) i179_49 rfl (x_lb_div g6) ?_
  refine e_as (n := k1) (h' := sL h 439 k1 ((((gL h 439 k1) * z) + (y * (gL h 440 k1))) / r5)) (pc' := 51) i179_50 rfl (x_alE (a := 21) (by decide) hw.1 sh439 (by decide) e2 g3 (by decide)) (x_clE e2 g3 (by decide)) (by rw [(show (SH 439).1 = 21 by rw [sh439])]; rfl) ?_
  have w8 : HW (sL h 439 k1 ((((gL h 439 k1) * z) + (y * (gL h 440 k1))) / r5)) := HW_sL hw
  refine e_ld (pc' := 52) i179_51 rfl rfl ?_
  refine e_get (w := .ref 440) (pc' := 55) i179_52 rfl (x_isC (by decide) w8.1 sh397) (x_fvR (by decide +kernel) (w8.2 397 47 440 lk397_47)) ?_
  refine e_ld (pc' := 56) i179_55 rfl rfl ?_
  refine e_ld (pc' := 58) i179_56 rfl rfl ?_
  refine e_ld (pc' := 60) i179_58 rfl rfl ?_
  obtain ⟨g8, H⟩ := H
  refine e_lb (z := ((gL h 440 k1) * z) / r5) (pc' := 61) i179_60 rfl (x_lb_div g8) ?_
  refine e_as (n := k1) (h' := sL (sL h 439 k1 ((((gL h 439 k1) * z) + (y * (gL h 440 k1))) / r5)) 440 k1 (((gL h 440 k1) * z) / r5)) (pc' := 62) i179_61 rfl (x_alE (a := 21) (by decide) w8.1 sh440 (by decide) e2 g3 (by decide)) (x_clE e2 g3 (by decide)) (by rw [(show (SH 440).1 = 21 by rw [sh440])]; rfl) ?_
  have w11 : HW (sL (sL h 439 k1 ((((gL h 439 k1) * z) + (y * (gL h 440 k1))) / r5)) 440 k1 (((gL h 440 k1) * z) / r5)) := HW_sL w8
  refine e_rt i179_62 rfl ?_
  exact H
-- FloorTurnModel.neededFor(I)I
set_option maxHeartbeats 8000000 in
set_option maxRecDepth 100000 in
theorem v180 {L : Nat} {xs : Nat → Int32} {Q : Option Value → Hp → Prop} {h : Hp} {x : Int32} (hw : HW h) 
  (H : WP L xs 180 6 [some (.ref 397), some (.int x), some (.int (1 <<< ((x : Int32) &&& 31))), some (.int 0), none] [] h Q) : ∃ r h', Sp L xs 180 [.ref 397, .int x] h r h' ∧ Q r h' := by
  refine sp_ex (ls := [some (.ref 397), some (.int x), none, none, none]) rfl ?_
  refine e_cn (pc' := 1) i180_0 rfl ?_
  refine e_ld (pc' := 2) i180_1 rfl rfl ?_
  refine e_ib (z := 1 <<< ((x : Int32) &&& 31)) (pc' := 3) i180_2 rfl rfl ?_
  refine e_st (ls' := [some (.ref 397), some (.int x), some (.int (1 <<< ((x : Int32) &&& 31))), none, none]) (pc' := 4) i180_3 rfl rfl rfl ?_
  refine e_cn (pc' := 5) i180_4 rfl ?_
  refine e_st (ls' := [some (.ref 397), some (.int x), some (.int (1 <<< ((x : Int32) &&& 31))), some (.int 0), none]) (pc' := 6) i180_5 rfl rfl rfl ?_
  exact H
set_option maxHeartbeats 8000000 in
set_option maxRecDepth 100000 in
theorem v180_6 {L : Nat} {xs : Nat → Int32} {Q : Option Value → Hp → Prop} {h : Hp} {z1 : Option Value} {l2 : Int32} {l3 : Int32} {z4 : Option Value} (hw : HW h) 
  (H : ((8 ≤ l3) → (Q (some (.int l2)) h)) ∧ (¬ (8 ≤ l3) → (WP L xs 180 15 [some (.ref 397), z1, some (.int l2), some (.int l3), some (.int 0)] [] h Q))) : WP L xs 180 6 [some (.ref 397), z1, some (.int l2), some (.int l3), z4] [] h Q := by
  refine e_ld (pc' := 7) i180_6 rfl rfl ?_
  refine e_cn (pc' := 9) i180_7 rfl ?_
  refine e_ic (pc' := 12) i180_9 rfl (fun c1 => ?_) (fun c1 => ?_)
  · have d2 : 8 ≤ l3 := (of_decide_eq_true c1)
    replace H := H.1 d2
    refine e_ld (pc' := 100) i180_99 rfl rfl ?_
    refine e_rt i180_100 rfl ?_
    exact H
  · have d3 : ¬ (8 ≤ l3) := (of_decide_eq_false c1)
    replace H := H.2 d3
    refine e_cn (pc' := 13) i180_12 rfl ?_
    refine e_st (ls' := [some (.ref 397), z1, some (.int l2), some (.int l3), some (.int 0)]) (pc' := 15) i180_13 rfl rfl rfl ?_
    exact H
set_option maxHeartbeats 8000000 in
set_option maxRecDepth 100000 in
theorem v180_15 {L : Nat} {xs : Nat → Int32} {Q : Option Value → Hp → Prop} {h : Hp} {z1 : Option Value} {l2 : Int32} {l3 : Int32} {l4 : Int32} (hw : HW h)  (z1_z : x_wide (some z1) = false)
  (H : (((gI h 397 1) ≤ l4) → (WP L xs 180 6 [some (.ref 397), z1, some (.int l2), some (.int (l3 + 1)), some (.int l4)] [] h Q)) ∧ (¬ ((gI h 397 1) ≤ l4) → (∃ k4 : Nat, l4 = nI k4 ∧ k4 < 8 ∧ ((((l2 >>> (((gI h 400 k4) : Int32) &&& 31)) &&& 1) = 1) → (∃ k10 : Nat, (2 * l4) = nI k10 ∧ k10 < 16 ∧ ∃ k13 : Nat, ((2 * l4) + 1) = nI k13 ∧ k13 < 16 ∧ (((gI h 402 k13) = 0) → (WP L xs 180 15 [some (.ref 397), z1, some (.int ((l2 ||| (1 <<< (((gI h 402 k10) : Int32) &&& 31))) ||| 0)), some (.int l3), some (.int (l4 + 1))] [] h Q)) ∧ (¬ ((gI h 402 k13) = 0) → (∀ y18 : Int32, y18 = (l2 ||| (1 <<< (((gI h 402 k10) : Int32) &&& 31))) ||| (1 <<< (((gI h 402 k13) : Int32) &&& 31)) → WP L xs 180 15 [some (.ref 397), z1, some (.int y18), some (.int l3), some (.int (l4 + 1))] [] h Q)))) ∧ (¬ (((l2 >>> (((gI h 400 k4) : Int32) &&& 31)) &&& 1) = 1) → (WP L xs 180 15 [some (.ref 397), z1, some (.int l2), some (.int l3), some (.int (l4 + 1))] [] h Q))))) : WP L xs 180 15 [some (.ref 397), z1, some (.int l2), some (.int l3), some (.int l4)] [] h Q := by
  refine e_ld (pc' := 17) i180_15 rfl rfl ?_
  refine e_ld (pc' := 18) i180_17 rfl rfl ?_
  refine e_get (w := .int (gI h 397 1)) (pc' := 21) i180_18 rfl (x_isC (by decide) hw.1 sh397) rfl ?_
  refine e_ic (pc' := 24) i180_21 rfl (fun c1 => ?_) (fun c1 => ?_)
  · have d2 : (gI h 397 1) ≤ l4 := (of_decide_eq_true c1)
    replace H := H.1 d2
    refine e_inc (z := l3 + 1) (ls' := [some (.ref 397), z1, some (.int l2), some (.int (l3 + 1)), some (.int l4)]) (pc' := 96) i180_93 rfl rfl rfl rfl ?_
    refine e_go i180_96 ?_
    exact H
  · have d3 : ¬ ((gI h 397 1) ≤ l4) := (of_decide_eq_false c1)
    replace H := H.2 d3
    refine e_ld (pc' := 25) i180_24 rfl rfl ?_
    refine e_ld (pc' := 26) i180_25 rfl rfl ?_
    refine e_get (w := .ref 400) (pc' := 29) i180_26 rfl (x_isC (by decide) hw.1 sh397) (x_fvR (by decide +kernel) (hw.2 397 3 400 lk397_3)) ?_
    refine e_ld (pc' := 31) i180_29 rfl rfl ?_
    obtain ⟨k4, e5, g6, H⟩ := H
    refine e_al (n := k4) (w := .int (gI h 400 k4)) (pc' := 32) i180_31 rfl (x_alE (a := 20) (by decide) hw.1 sh400 (by decide) e5 g6 (by decide)) (x_clE e5 g6 (by decide)) rfl ?_
    refine e_ib (z := l2 >>> (((gI h 400 k4) : Int32) &&& 31)) (pc' := 33) i180_32 rfl rfl ?_
    refine e_cn (pc' := 34) i180_33 rfl ?_
    refine e_ib (z := (l2 >>> (((gI h 400 k4) : Int32) &&& 31)) &&& 1) (pc' := 35) i180_34 rfl rfl ?_
    refine e_cn (pc' := 36) i180_35 rfl ?_
    refine e_ic (pc' := 39) i180_36 rfl (fun c7 => ?_) (fun c7 => ?_)
    · have d8 : ¬ (((l2 >>> (((gI h 400 k4) : Int32) &&& 31)) &&& 1) = 1) := (of_decide_eq_true c7)
      replace H := H.2 d8
      refine e_inc (z := l4 + 1) (ls' := [some (.ref 397), z1, some (.int l2), some (.int l3), some (.int (l4 + 1))]) (pc' := 90) i180_87 rfl rfl rfl rfl ?_
      refine e_go i180_90 ?_
      exact H
    · have d9 : ((l2 >>> (((gI h 400 k4) : Int32) &&& 31)) &&& 1) = 1 := (Decidable.not_not.mp (of_decide_eq_false c7))
      replace H := H.1 d9
      refine e_ld (pc' := 40) i180_39 rfl rfl ?_
      refine e_cn (pc' := 41) i180_40 rfl ?_
      refine e_ld (pc' := 42) i180_41 rfl rfl ?_
      refine e_get (w := .ref 402) (pc' := 45) i180_42 rfl (x_isC (by decide) hw.1 sh397) (x_fvR (by decide +kernel) (hw.2 397 5 402 lk397_5)) ?_
      refine e_cn (pc' := 46) i180_45 rfl ?_
      refine e_ld (pc' := 48) i180_46 rfl rfl ?_
      refine e_ib (z := 2 * l4) (pc' := 49) i180_48 rfl rfl ?_
      obtain ⟨k10, e11, g12, H⟩ := H
      refine e_al (n := k10) (w := .int (gI h 402 k10)) (pc' := 50) i180_49 rfl (x_alE (a := 20) (by decide) hw.1 sh402 (by decide) e11 g12 (by decide)) (x_clE e11 g12 (by decide)) rfl ?_
      refine e_ib (z := 1 <<< (((gI h 402 k10) : Int32) &&& 31)) (pc' := 51) i180_50 rfl rfl ?_
      refine e_ib (z := l2 ||| (1 <<< (((gI h 402 k10) : Int32) &&& 31))) (pc' := 52) i180_51 rfl rfl ?_
      refine e_st (ls' := [some (.ref 397), z1, some (.int (l2 ||| (1 <<< (((gI h 402 k10) : Int32) &&& 31)))), some (.int l3), some (.int l4)]) (pc' := 53) i180_52 rfl rfl ((x_stz (a := 1) rfl z1_z rfl).trans rfl) ?_
      refine e_ld (pc' := 54) i180_53 rfl rfl ?_
      refine e_ld (pc' := 55) i180_54 rfl rfl ?_
      refine e_get (w := .ref 402) (pc' := 58) i180_55 rfl (x_isC (by decide) hw.1 sh397) (x_fvR (by decide +kernel) (hw.2 397 5 402 lk397_5)) ?_
      refine e_cn (pc' := 59) i180_58 rfl ?_
      refine e_ld (pc' := 61) i180_59 rfl rfl ?_
      refine e_ib (z := 2 * l4) (pc' := 62) i180_61 rfl rfl ?_
      refine e_cn (pc' := 63) i180_62 rfl ?_
      refine e_ib (z := (2 * l4) + 1) (pc' := 64) i180_63 rfl rfl ?_
      obtain ⟨k13, e14, g15, H⟩ := H
      refine e_al (n := k13) (w := .int (gI h 402 k13)) (pc' := 65) i180_64 rfl (x_alE (a := 20) (by decide) hw.1 sh402 (by decide) e14 g15 (by decide)) (x_clE e14 g15 (by decide)) rfl ?_
      refine e_if (pc' := 68) i180_65 rfl (fun c16 => ?_) (fun c16 => ?_)
      · have d17 : ¬ ((gI h 402 k13) = 0) := (of_decide_eq_true c16)
        replace H := H.2 d17
        refine e_cn (pc' := 73) i180_72 rfl ?_
        refine e_ld (pc' := 74) i180_73 rfl rfl ?_
        refine e_get (w := .ref 402) (pc' := 77) i180_74 rfl (x_isC (by decide) hw.1 sh397) (x_fvR (by decide +kernel) (hw.2 397 5 402 lk397_5)) ?_
        refine e_cn (pc' := 78) i180_77 rfl ?_
        refine e_ld (pc' := 80) i180_78 rfl rfl ?_
        refine e_ib (z := 2 * l4) (pc' := 81) i180_80 rfl rfl ?_
        refine e_cn (pc' := 82) i180_81 rfl ?_
        refine e_ib (z := (2 * l4) + 1) (pc' := 83) i180_82 rfl rfl ?_
        refine e_al (n := k13) (w := .int (gI h 402 k13)) (pc' := 84) i180_83 rfl (x_alE (a := 20) (by decide) hw.1 sh402 (by decide) e14 g15 (by decide)) (x_clE e14 g15 (by decide)) rfl ?_
        refine e_ib (z := 1 <<< (((gI h 402 k13) : Int32) &&& 31)) (pc' := 85) i180_84 rfl rfl ?_
        refine e_ib (z := (l2 ||| (1 <<< (((gI h 402 k10) : Int32) &&& 31))) ||| (1 <<< (((gI h 402 k13) : Int32) &&& 31))) (pc' := 86) i180_85 rfl rfl ?_
        replace H := H _ rfl
        generalize (l2 ||| (1 <<< (((gI h 402 k10) : Int32) &&& 31))) ||| (1 <<< (((gI h 402 k13) : Int32) &&& 31)) = y18 at H ⊢
        refine e_st (ls' := [some (.ref 397), z1, some (.int y18), some (.int l3), some (.int l4)]) (pc' := 87) i180_86 rfl rfl ((x_stz (a := 1) rfl z1_z rfl).trans rfl) ?_
        refine e_inc (z := l4 + 1) (ls' := [some (.ref 397), z1, some (.int y18), some (.int l3), some (.int (l4 + 1))]) (pc' := 90) i180_87 rfl rfl rfl rfl ?_
        refine e_go i180_90 ?_
        exact H
      · have d19 : (gI h 402 k13) = 0 := (Decidable.not_not.mp (of_decide_eq_false c16))
        replace H := H.1 d19
        refine e_cn (pc' := 69) i180_68 rfl ?_
        refine e_go i180_69 ?_
        refine e_ib (z := (l2 ||| (1 <<< (((gI h 402 k10) : Int32) &&& 31))) ||| 0) (pc' := 86) i180_85 rfl rfl ?_
        refine e_st (ls' := [some (.ref 397), z1, some (.int ((l2 ||| (1 <<< (((gI h 402 k10) : Int32) &&& 31))) ||| 0)), some (.int l3), some (.int l4)]) (pc' := 87) i180_86 rfl rfl ((x_stz (a := 1) rfl z1_z rfl).trans rfl) ?_
        refine e_inc (z := l4 + 1) (ls' := [some (.ref 397), z1, some (.int ((l2 ||| (1 <<< (((gI h 402 k10) : Int32) &&& 31))) ||| 0)), some (.int l3), some (.int (l4 + 1))]) (pc' := 90) i180_87 rfl rfl rfl rfl ?_
        refine e_go i180_90 ?_
        exact H
-- FloorTurnModel.free(II)I
set_option maxHeartbeats 8000000 in
set_option maxRecDepth 100000 in
theorem v181 {L : Nat} {xs : Nat → Int32} {Q : Option Value → Hp → Prop} {h : Hp} {x : Int32} {y : Int32} (hw : HW h) 
  (H : WP L xs 181 2 [some (.ref 397), some (.int x), some (.int y), some (.int 0), none, none, none] [] h Q) : ∃ r h', Sp L xs 181 [.ref 397, .int x, .int y] h r h' ∧ Q r h' := by
  refine sp_ex (ls := [some (.ref 397), some (.int x), some (.int y), none, none, none, none]) rfl ?_
  refine e_cn (pc' := 1) i181_0 rfl ?_
  refine e_st (ls' := [some (.ref 397), some (.int x), some (.int y), some (.int 0), none, none, none]) (pc' := 2) i181_1 rfl rfl rfl ?_
  exact H
set_option maxHeartbeats 8000000 in
set_option maxRecDepth 100000 in
theorem v181_2 {L : Nat} {xs : Nat → Int32} {Q : Option Value → Hp → Prop} {h : Hp} {l1 : Int32} {l2 : Int32} {l3 : Int32} {z4 : Option Value} {z5 : Option Value} {z6 : Option Value} (hw : HW h) 
  (H : (((gI h 397 1) ≤ l3) → (Q (some (.int (-1))) h)) ∧ (¬ ((gI h 397 1) ≤ l3) → (∃ k4 : Nat, l3 = nI k4 ∧ k4 < 8 ∧ WP L xs 181 42 [some (.ref 397), some (.int l1), some (.int l2), some (.int l3), some (.int (b2i (if ((l1 >>> (((gI h 400 k4) : Int32) &&& 31)) &&& 1) = 1 then (if ((l2 >>> ((l3 : Int32) &&& 31)) &&& 1) = 0 then (true) else (false)) else (false)))), some (.int 0), z6] [] h Q))) : WP L xs 181 2 [some (.ref 397), some (.int l1), some (.int l2), some (.int l3), z4, z5, z6] [] h Q := by
  refine e_ld (pc' := 3) i181_2 rfl rfl ?_
  refine e_ld (pc' := 4) i181_3 rfl rfl ?_
  refine e_get (w := .int (gI h 397 1)) (pc' := 7) i181_4 rfl (x_isC (by decide) hw.1 sh397) rfl ?_
  refine e_ic (pc' := 10) i181_7 rfl (fun c1 => ?_) (fun c1 => ?_)
  · have d2 : (gI h 397 1) ≤ l3 := (of_decide_eq_true c1)
    replace H := H.1 d2
    refine e_cn (pc' := 157) i181_156 rfl ?_
    refine e_rt i181_157 rfl ?_
    exact H
  · have d3 : ¬ ((gI h 397 1) ≤ l3) := (of_decide_eq_false c1)
    replace H := H.2 d3
    refine e_ld (pc' := 11) i181_10 rfl rfl ?_
    refine e_ld (pc' := 12) i181_11 rfl rfl ?_
    refine e_get (w := .ref 400) (pc' := 15) i181_12 rfl (x_isC (by decide) hw.1 sh397) (x_fvR (by decide +kernel) (hw.2 397 3 400 lk397_3)) ?_
    refine e_ld (pc' := 16) i181_15 rfl rfl ?_
    obtain ⟨k4, e5, g6, H⟩ := H
    refine e_al (n := k4) (w := .int (gI h 400 k4)) (pc' := 17) i181_16 rfl (x_alE (a := 20) (by decide) hw.1 sh400 (by decide) e5 g6 (by decide)) (x_clE e5 g6 (by decide)) rfl ?_
    refine e_ib (z := l1 >>> (((gI h 400 k4) : Int32) &&& 31)) (pc' := 18) i181_17 rfl rfl ?_
    refine e_cn (pc' := 19) i181_18 rfl ?_
    refine e_ib (z := (l1 >>> (((gI h 400 k4) : Int32) &&& 31)) &&& 1) (pc' := 20) i181_19 rfl rfl ?_
    refine e_cn (pc' := 21) i181_20 rfl ?_
    refine e_reg (pc' := 37) (ls' := [some (.ref 397), some (.int l1), some (.int l2), some (.int l3), z4, z5, z6]) (st' := [.int (b2i (if ((l1 >>> (((gI h 400 k4) : Int32) &&& 31)) &&& 1) = 1 then (if ((l2 >>> ((l3 : Int32) &&& 31)) &&& 1) = 0 then (true) else (false)) else (false)))]) (fun kj7 => ?_) ?_
    · skip
      refine e_ic (pc' := 24) i181_21 rfl (fun c8 => ?_) (fun c8 => ?_)
      · have d9 : ¬ (((l1 >>> (((gI h 400 k4) : Int32) &&& 31)) &&& 1) = 1) := (of_decide_eq_true c8)
        refine e_cn (pc' := 37) i181_36 rfl ?_
        exact (by simp only [if_neg d9] at kj7 ⊢; exact kj7)
      · have d10 : ((l1 >>> (((gI h 400 k4) : Int32) &&& 31)) &&& 1) = 1 := (Decidable.not_not.mp (of_decide_eq_false c8))
        refine e_ld (pc' := 25) i181_24 rfl rfl ?_
        refine e_ld (pc' := 26) i181_25 rfl rfl ?_
        refine e_ib (z := l2 >>> ((l3 : Int32) &&& 31)) (pc' := 27) i181_26 rfl rfl ?_
        refine e_cn (pc' := 28) i181_27 rfl ?_
        refine e_ib (z := (l2 >>> ((l3 : Int32) &&& 31)) &&& 1) (pc' := 29) i181_28 rfl rfl ?_
        refine e_reg (pc' := 37) (ls' := [some (.ref 397), some (.int l1), some (.int l2), some (.int l3), z4, z5, z6]) (st' := [.int (b2i (if ((l2 >>> ((l3 : Int32) &&& 31)) &&& 1) = 0 then (true) else (false)))]) (fun kj11 => ?_) ?_
        · skip
          refine e_if (pc' := 32) i181_29 rfl (fun c12 => ?_) (fun c12 => ?_)
          · have d13 : ¬ (((l2 >>> ((l3 : Int32) &&& 31)) &&& 1) = 0) := (of_decide_eq_true c12)
            refine e_cn (pc' := 37) i181_36 rfl ?_
            exact (by simp only [if_neg d13] at kj11 ⊢; exact kj11)
          · have d14 : ((l2 >>> ((l3 : Int32) &&& 31)) &&& 1) = 0 := (Decidable.not_not.mp (of_decide_eq_false c12))
            refine e_cn (pc' := 33) i181_32 rfl ?_
            refine e_go i181_33 ?_
            exact (by simp only [if_pos d14] at kj11 ⊢; exact kj11)
        exact (by simp only [if_pos d10] at kj7 ⊢; exact kj7)
    refine e_st (ls' := [some (.ref 397), some (.int l1), some (.int l2), some (.int l3), some (.int (b2i (if ((l1 >>> (((gI h 400 k4) : Int32) &&& 31)) &&& 1) = 1 then (if ((l2 >>> ((l3 : Int32) &&& 31)) &&& 1) = 0 then (true) else (false)) else (false)))), z5, z6]) (pc' := 39) i181_37 rfl rfl rfl ?_
    refine e_cn (pc' := 40) i181_39 rfl ?_
    refine e_st (ls' := [some (.ref 397), some (.int l1), some (.int l2), some (.int l3), some (.int (b2i (if ((l1 >>> (((gI h 400 k4) : Int32) &&& 31)) &&& 1) = 1 then (if ((l2 >>> ((l3 : Int32) &&& 31)) &&& 1) = 0 then (true) else (false)) else (false)))), some (.int 0), z6]) (pc' := 42) i181_40 rfl rfl rfl ?_
    exact H
set_option maxHeartbeats 8000000 in
set_option maxRecDepth 100000 in
theorem v181_42 {L : Nat} {xs : Nat → Int32} {Q : Option Value → Hp → Prop} {h : Hp} {l1 : Int32} {l2 : Int32} {l3 : Int32} {l4 : Int32} {l5 : Int32} {z6 : Option Value} (hw : HW h) 
  (H : (((gI h 397 1) ≤ l5) → (((l4 = 0) → (WP L xs 181 2 [some (.ref 397), some (.int l1), some (.int l2), some (.int (l3 + 1)), some (.int l4), some (.int l5), z6] [] h Q)) ∧ (¬ (l4 = 0) → (Q (some (.int l3)) h)))) ∧ (¬ ((gI h 397 1) ≤ l5) → (((l4 = 0) → (WP L xs 181 2 [some (.ref 397), some (.int l1), some (.int l2), some (.int (l3 + 1)), some (.int l4), some (.int l5), z6] [] h Q)) ∧ (¬ (l4 = 0) → (∃ k10 : Nat, l5 = nI k10 ∧ k10 < 8 ∧ (((if ((l1 >>> (((gI h 400 k10) : Int32) &&& 31)) &&& 1) = 1 then (if ((l2 >>> ((l5 : Int32) &&& 31)) &&& 1) = 0 then (true) else (false)) else (false)) = true) → (∃ k24 : Nat, (2 * l5) = nI k24 ∧ k24 < 16 ∧ ∃ k27 : Nat, l3 = nI k27 ∧ k27 < 8 ∧ (((gI h 402 k24) = (gI h 400 k27)) → (WP L xs 181 42 [some (.ref 397), some (.int l1), some (.int l2), some (.int l3), some (.int 0), some (.int (l5 + 1)), some (.int (b2i (if ((l1 >>> (((gI h 400 k10) : Int32) &&& 31)) &&& 1) = 1 then (if ((l2 >>> ((l5 : Int32) &&& 31)) &&& 1) = 0 then (true) else (false)) else (false))))] [] h Q)) ∧ (¬ ((gI h 402 k24) = (gI h 400 k27)) → (∃ k33 : Nat, ((2 * l5) + 1) = nI k33 ∧ k33 < 16 ∧ WP L xs 181 42 [some (.ref 397), some (.int l1), some (.int l2), some (.int l3), some (.int (b2i (if (gI h 402 k33) = (gI h 400 k27) then (false) else (true)))), some (.int (l5 + 1)), some (.int (b2i (if ((l1 >>> (((gI h 400 k10) : Int32) &&& 31)) &&& 1) = 1 then (if ((l2 >>> ((l5 : Int32) &&& 31)) &&& 1) = 0 then (true) else (false)) else (false))))] [] h Q)))) ∧ (¬ ((if ((l1 >>> (((gI h 400 k10) : Int32) &&& 31)) &&& 1) = 1 then (if ((l2 >>> ((l5 : Int32) &&& 31)) &&& 1) = 0 then (true) else (false)) else (false)) = true) → (WP L xs 181 42 [some (.ref 397), some (.int l1), some (.int l2), some (.int l3), some (.int 1), some (.int (l5 + 1)), some (.int (b2i (if ((l1 >>> (((gI h 400 k10) : Int32) &&& 31)) &&& 1) = 1 then (if ((l2 >>> ((l5 : Int32) &&& 31)) &&& 1) = 0 then (true) else (false)) else (false))))] [] h Q))))))) : WP L xs 181 42 [some (.ref 397), some (.int l1), some (.int l2), some (.int l3), some (.int l4), some (.int l5), z6] [] h Q := by
  refine e_ld (pc' := 44) i181_42 rfl rfl ?_
  refine e_ld (pc' := 45) i181_44 rfl rfl ?_
  refine e_get (w := .int (gI h 397 1)) (pc' := 48) i181_45 rfl (x_isC (by decide) hw.1 sh397) rfl ?_
  refine e_ic (pc' := 51) i181_48 rfl (fun c1 => ?_) (fun c1 => ?_)
  · have d2 : (gI h 397 1) ≤ l5 := (of_decide_eq_true c1)
    replace H := H.1 d2
    refine e_ld (pc' := 145) i181_143 rfl rfl ?_
    refine e_if (pc' := 148) i181_145 rfl (fun c3 => ?_) (fun c3 => ?_)
    · have d4 : l4 = 0 := (of_decide_eq_true c3)
      replace H := H.1 d4
      refine e_inc (z := l3 + 1) (ls' := [some (.ref 397), some (.int l1), some (.int l2), some (.int (l3 + 1)), some (.int l4), some (.int l5), z6]) (pc' := 153) i181_150 rfl rfl rfl rfl ?_
      refine e_go i181_153 ?_
      exact H
    · have d5 : ¬ (l4 = 0) := (of_decide_eq_false c3)
      replace H := H.2 d5
      refine e_ld (pc' := 149) i181_148 rfl rfl ?_
      refine e_rt i181_149 rfl ?_
      exact H
  · have d6 : ¬ ((gI h 397 1) ≤ l5) := (of_decide_eq_false c1)
    replace H := H.2 d6
    refine e_ld (pc' := 53) i181_51 rfl rfl ?_
    refine e_if (pc' := 56) i181_53 rfl (fun c7 => ?_) (fun c7 => ?_)
    · have d8 : l4 = 0 := (of_decide_eq_true c7)
      replace H := H.1 d8
      refine e_ld (pc' := 145) i181_143 rfl rfl ?_
      refine e_ifT i181_145 (decide_eq_true d8) ?_
      refine e_inc (z := l3 + 1) (ls' := [some (.ref 397), some (.int l1), some (.int l2), some (.int (l3 + 1)), some (.int l4), some (.int l5), z6]) (pc' := 153) i181_150 rfl rfl rfl rfl ?_
      refine e_go i181_153 ?_
      exact H
    · have d9 : ¬ (l4 = 0) := (of_decide_eq_false c7)
      replace H := H.2 d9
      refine e_ld (pc' := 57) i181_56 rfl rfl ?_
      refine e_ld (pc' := 58) i181_57 rfl rfl ?_
      refine e_get (w := .ref 400) (pc' := 61) i181_58 rfl (x_isC (by decide) hw.1 sh397) (x_fvR (by decide +kernel) (hw.2 397 3 400 lk397_3)) ?_
      refine e_ld (pc' := 63) i181_61 rfl rfl ?_
      obtain ⟨k10, e11, g12, H⟩ := H
      refine e_al (n := k10) (w := .int (gI h 400 k10)) (pc' := 64) i181_63 rfl (x_alE (a := 20) (by decide) hw.1 sh400 (by decide) e11 g12 (by decide)) (x_clE e11 g12 (by decide)) rfl ?_
      refine e_ib (z := l1 >>> (((gI h 400 k10) : Int32) &&& 31)) (pc' := 65) i181_64 rfl rfl ?_
      refine e_cn (pc' := 66) i181_65 rfl ?_
      refine e_ib (z := (l1 >>> (((gI h 400 k10) : Int32) &&& 31)) &&& 1) (pc' := 67) i181_66 rfl rfl ?_
      refine e_cn (pc' := 68) i181_67 rfl ?_
      refine e_reg (pc' := 85) (ls' := [some (.ref 397), some (.int l1), some (.int l2), some (.int l3), some (.int l4), some (.int l5), z6]) (st' := [.int (b2i (if ((l1 >>> (((gI h 400 k10) : Int32) &&& 31)) &&& 1) = 1 then (if ((l2 >>> ((l5 : Int32) &&& 31)) &&& 1) = 0 then (true) else (false)) else (false)))]) (fun kj13 => ?_) ?_
      · skip
        refine e_ic (pc' := 71) i181_68 rfl (fun c14 => ?_) (fun c14 => ?_)
        · have d15 : ¬ (((l1 >>> (((gI h 400 k10) : Int32) &&& 31)) &&& 1) = 1) := (of_decide_eq_true c14)
          refine e_cn (pc' := 85) i181_84 rfl ?_
          exact (by simp only [if_neg d15] at kj13 ⊢; exact kj13)
        · have d16 : ((l1 >>> (((gI h 400 k10) : Int32) &&& 31)) &&& 1) = 1 := (Decidable.not_not.mp (of_decide_eq_false c14))
          refine e_ld (pc' := 72) i181_71 rfl rfl ?_
          refine e_ld (pc' := 74) i181_72 rfl rfl ?_
          refine e_ib (z := l2 >>> ((l5 : Int32) &&& 31)) (pc' := 75) i181_74 rfl rfl ?_
          refine e_cn (pc' := 76) i181_75 rfl ?_
          refine e_ib (z := (l2 >>> ((l5 : Int32) &&& 31)) &&& 1) (pc' := 77) i181_76 rfl rfl ?_
          refine e_reg (pc' := 85) (ls' := [some (.ref 397), some (.int l1), some (.int l2), some (.int l3), some (.int l4), some (.int l5), z6]) (st' := [.int (b2i (if ((l2 >>> ((l5 : Int32) &&& 31)) &&& 1) = 0 then (true) else (false)))]) (fun kj17 => ?_) ?_
          · skip
            refine e_if (pc' := 80) i181_77 rfl (fun c18 => ?_) (fun c18 => ?_)
            · have d19 : ¬ (((l2 >>> ((l5 : Int32) &&& 31)) &&& 1) = 0) := (of_decide_eq_true c18)
              refine e_cn (pc' := 85) i181_84 rfl ?_
              exact (by simp only [if_neg d19] at kj17 ⊢; exact kj17)
            · have d20 : ((l2 >>> ((l5 : Int32) &&& 31)) &&& 1) = 0 := (Decidable.not_not.mp (of_decide_eq_false c18))
              refine e_cn (pc' := 81) i181_80 rfl ?_
              refine e_go i181_81 ?_
              exact (by simp only [if_pos d20] at kj17 ⊢; exact kj17)
          exact (by simp only [if_pos d16] at kj13 ⊢; exact kj13)
      refine e_st (ls' := [some (.ref 397), some (.int l1), some (.int l2), some (.int l3), some (.int l4), some (.int l5), some (.int (b2i (if ((l1 >>> (((gI h 400 k10) : Int32) &&& 31)) &&& 1) = 1 then (if ((l2 >>> ((l5 : Int32) &&& 31)) &&& 1) = 0 then (true) else (false)) else (false))))]) (pc' := 87) i181_85 rfl rfl rfl ?_
      refine e_ld (pc' := 89) i181_87 rfl rfl ?_
      refine e_b0 (pc' := 92) i181_89 rfl (fun c21 => ?_) (fun c21 => ?_)
      · have d22 : ¬ ((if ((l1 >>> (((gI h 400 k10) : Int32) &&& 31)) &&& 1) = 1 then (if ((l2 >>> ((l5 : Int32) &&& 31)) &&& 1) = 0 then (true) else (false)) else (false)) = true) := (show ¬ (if ((l1 >>> (((gI h 400 k10) : Int32) &&& 31)) &&& 1) = 1 then (if ((l2 >>> ((l5 : Int32) &&& 31)) &&& 1) = 0 then (true) else (false)) else (false)) = true by rw [c21]; decide)
        replace H := H.2 d22
        refine e_cn (pc' := 131) i181_130 rfl ?_
        refine e_go i181_131 ?_
        refine e_st (ls' := [some (.ref 397), some (.int l1), some (.int l2), some (.int l3), some (.int 1), some (.int l5), some (.int (b2i (if ((l1 >>> (((gI h 400 k10) : Int32) &&& 31)) &&& 1) = 1 then (if ((l2 >>> ((l5 : Int32) &&& 31)) &&& 1) = 0 then (true) else (false)) else (false))))]) (pc' := 137) i181_135 rfl rfl rfl ?_
        refine e_inc (z := l5 + 1) (ls' := [some (.ref 397), some (.int l1), some (.int l2), some (.int l3), some (.int 1), some (.int (l5 + 1)), some (.int (b2i (if ((l1 >>> (((gI h 400 k10) : Int32) &&& 31)) &&& 1) = 1 then (if ((l2 >>> ((l5 : Int32) &&& 31)) &&& 1) = 0 then (true) else (false)) else (false))))]) (pc' := 140) i181_137 rfl rfl rfl rfl ?_
        refine e_go i181_140 ?_
        exact H
      · have d23 : (if ((l1 >>> (((gI h 400 k10) : Int32) &&& 31)) &&& 1) = 1 then (if ((l2 >>> ((l5 : Int32) &&& 31)) &&& 1) = 0 then (true) else (false)) else (false)) = true := c21
        replace H := H.1 d23
        refine e_ld (pc' := 93) i181_92 rfl rfl ?_
        refine e_get (w := .ref 402) (pc' := 96) i181_93 rfl (x_isC (by decide) hw.1 sh397) (x_fvR (by decide +kernel) (hw.2 397 5 402 lk397_5)) ?_
        refine e_cn (pc' := 97) i181_96 rfl ?_
        refine e_ld (pc' := 99) i181_97 rfl rfl ?_
        refine e_ib (z := 2 * l5) (pc' := 100) i181_99 rfl rfl ?_
        obtain ⟨k24, e25, g26, H⟩ := H
        refine e_al (n := k24) (w := .int (gI h 402 k24)) (pc' := 101) i181_100 rfl (x_alE (a := 20) (by decide) hw.1 sh402 (by decide) e25 g26 (by decide)) (x_clE e25 g26 (by decide)) rfl ?_
        refine e_ld (pc' := 102) i181_101 rfl rfl ?_
        refine e_get (w := .ref 400) (pc' := 105) i181_102 rfl (x_isC (by decide) hw.1 sh397) (x_fvR (by decide +kernel) (hw.2 397 3 400 lk397_3)) ?_
        refine e_ld (pc' := 106) i181_105 rfl rfl ?_
        obtain ⟨k27, e28, g29, H⟩ := H
        refine e_al (n := k27) (w := .int (gI h 400 k27)) (pc' := 107) i181_106 rfl (x_alE (a := 20) (by decide) hw.1 sh400 (by decide) e28 g29 (by decide)) (x_clE e28 g29 (by decide)) rfl ?_
        refine e_ic (pc' := 110) i181_107 rfl (fun c30 => ?_) (fun c30 => ?_)
        · have d31 : (gI h 402 k24) = (gI h 400 k27) := (of_decide_eq_true c30)
          replace H := H.1 d31
          refine e_cn (pc' := 135) i181_134 rfl ?_
          refine e_st (ls' := [some (.ref 397), some (.int l1), some (.int l2), some (.int l3), some (.int 0), some (.int l5), some (.int (b2i (if ((l1 >>> (((gI h 400 k10) : Int32) &&& 31)) &&& 1) = 1 then (if ((l2 >>> ((l5 : Int32) &&& 31)) &&& 1) = 0 then (true) else (false)) else (false))))]) (pc' := 137) i181_135 rfl rfl rfl ?_
          refine e_inc (z := l5 + 1) (ls' := [some (.ref 397), some (.int l1), some (.int l2), some (.int l3), some (.int 0), some (.int (l5 + 1)), some (.int (b2i (if ((l1 >>> (((gI h 400 k10) : Int32) &&& 31)) &&& 1) = 1 then (if ((l2 >>> ((l5 : Int32) &&& 31)) &&& 1) = 0 then (true) else (false)) else (false))))]) (pc' := 140) i181_137 rfl rfl rfl rfl ?_
          refine e_go i181_140 ?_
          exact H
        · have d32 : ¬ ((gI h 402 k24) = (gI h 400 k27)) := (of_decide_eq_false c30)
          replace H := H.2 d32
          refine e_ld (pc' := 111) i181_110 rfl rfl ?_
          refine e_get (w := .ref 402) (pc' := 114) i181_111 rfl (x_isC (by decide) hw.1 sh397) (x_fvR (by decide +kernel) (hw.2 397 5 402 lk397_5)) ?_
          refine e_cn (pc' := 115) i181_114 rfl ?_
          refine e_ld (pc' := 117) i181_115 rfl rfl ?_
          refine e_ib (z := 2 * l5) (pc' := 118) i181_117 rfl rfl ?_
          refine e_cn (pc' := 119) i181_118 rfl ?_
          refine e_ib (z := (2 * l5) + 1) (pc' := 120) i181_119 rfl rfl ?_
          obtain ⟨k33, e34, g35, H⟩ := H
          refine e_al (n := k33) (w := .int (gI h 402 k33)) (pc' := 121) i181_120 rfl (x_alE (a := 20) (by decide) hw.1 sh402 (by decide) e34 g35 (by decide)) (x_clE e34 g35 (by decide)) rfl ?_
          refine e_ld (pc' := 122) i181_121 rfl rfl ?_
          refine e_get (w := .ref 400) (pc' := 125) i181_122 rfl (x_isC (by decide) hw.1 sh397) (x_fvR (by decide +kernel) (hw.2 397 3 400 lk397_3)) ?_
          refine e_ld (pc' := 126) i181_125 rfl rfl ?_
          refine e_al (n := k27) (w := .int (gI h 400 k27)) (pc' := 127) i181_126 rfl (x_alE (a := 20) (by decide) hw.1 sh400 (by decide) e28 g29 (by decide)) (x_clE e28 g29 (by decide)) rfl ?_
          refine e_reg (pc' := 135) (ls' := [some (.ref 397), some (.int l1), some (.int l2), some (.int l3), some (.int l4), some (.int l5), some (.int (b2i (if ((l1 >>> (((gI h 400 k10) : Int32) &&& 31)) &&& 1) = 1 then (if ((l2 >>> ((l5 : Int32) &&& 31)) &&& 1) = 0 then (true) else (false)) else (false))))]) (st' := [.int (b2i (if (gI h 402 k33) = (gI h 400 k27) then (false) else (true)))]) (fun kj36 => ?_) ?_
          · skip
            refine e_ic (pc' := 130) i181_127 rfl (fun c37 => ?_) (fun c37 => ?_)
            · have d38 : (gI h 402 k33) = (gI h 400 k27) := (of_decide_eq_true c37)
              refine e_cn (pc' := 135) i181_134 rfl ?_
              exact (by simp only [if_pos d38] at kj36 ⊢; exact kj36)
            · have d39 : ¬ ((gI h 402 k33) = (gI h 400 k27)) := (of_decide_eq_false c37)
              refine e_cn (pc' := 131) i181_130 rfl ?_
              refine e_go i181_131 ?_
              exact (by simp only [if_neg d39] at kj36 ⊢; exact kj36)
          refine e_st (ls' := [some (.ref 397), some (.int l1), some (.int l2), some (.int l3), some (.int (b2i (if (gI h 402 k33) = (gI h 400 k27) then (false) else (true)))), some (.int l5), some (.int (b2i (if ((l1 >>> (((gI h 400 k10) : Int32) &&& 31)) &&& 1) = 1 then (if ((l2 >>> ((l5 : Int32) &&& 31)) &&& 1) = 0 then (true) else (false)) else (false))))]) (pc' := 137) i181_135 rfl rfl rfl ?_
          refine e_inc (z := l5 + 1) (ls' := [some (.ref 397), some (.int l1), some (.int l2), some (.int l3), some (.int (b2i (if (gI h 402 k33) = (gI h 400 k27) then (false) else (true)))), some (.int (l5 + 1)), some (.int (b2i (if ((l1 >>> (((gI h 400 k10) : Int32) &&& 31)) &&& 1) = 1 then (if ((l2 >>> ((l5 : Int32) &&& 31)) &&& 1) = 0 then (true) else (false)) else (false))))]) (pc' := 140) i181_137 rfl rfl rfl rfl ?_
          refine e_go i181_140 ?_
          exact H
-- FloorTurnModel.wish(III)I
set_option maxHeartbeats 8000000 in
set_option maxRecDepth 100000 in
theorem v182 {L : Nat} {xs : Nat → Int32} {Q : Option Value → Hp → Prop} {h : Hp} {x : Int32} {y : Int32} {z : Int32} (hw : HW h) 
  (H : (((x_isItem x) = true) → (∃ (r9 : Int32), Sp L xs 129 [.ref 397, .int x] h (some (.int r9)) h ∧ ((r9 = (-1)) → (∃ (r14 : Int32) (h12 : Hp), Sp L xs 124 [.ref 397, .int (-6)] h (some (.int r14)) h12 ∧ Q (some (.int r14)) h12)) ∧ (¬ (r9 = (-1)) → ((((x_in3 y 1 60) = true) → ((((x_in3 z 1 60) = true) → (∃ (r27 : Int32), Sp L xs 180 [.ref 397, .int x] h (some (.int r27)) h ∧ WP L xs 182 56 [some (.ref 397), some (.int x), some (.int y), some (.int z), some (.int r27), some (.int 0), some (.int 0), none, none, none, none, none, none] [] h Q)) ∧ (¬ ((x_in3 z 1 60) = true) → (∃ (r31 : Int32) (h29 : Hp), Sp L xs 124 [.ref 397, .int (-6)] h (some (.int r31)) h29 ∧ Q (some (.int r31)) h29)))) ∧ (¬ ((x_in3 y 1 60) = true) → (∃ (r21 : Int32) (h19 : Hp), Sp L xs 124 [.ref 397, .int (-6)] h (some (.int r21)) h19 ∧ Q (some (.int r21)) h19)))))) ∧ (¬ ((x_isItem x) = true) → (∃ (r5 : Int32) (h3 : Hp), Sp L xs 124 [.ref 397, .int (-6)] h (some (.int r5)) h3 ∧ Q (some (.int r5)) h3))) : ∃ r h', Sp L xs 182 [.ref 397, .int x, .int y, .int z] h r h' ∧ Q r h' := by
  refine sp_ex (ls := [some (.ref 397), some (.int x), some (.int y), some (.int z), none, none, none, none, none, none, none, none, none]) rfl ?_
  refine e_ld (pc' := 1) i182_0 rfl rfl ?_
  refine e_cI (w := .int (b2i (x_isItem x))) (As := [.int x]) (rest := []) (pc' := 4) i182_1 rfl rfl rfl rfl rfl m126 ?_
  refine e_b0 (pc' := 7) i182_4 rfl (fun c1 => ?_) (fun c1 => ?_)
  · have d2 : ¬ ((x_isItem x) = true) := (show ¬ (x_isItem x) = true by rw [c1]; decide)
    replace H := H.2 d2
    refine e_ld (pc' := 37) i182_36 rfl rfl ?_
    refine e_cn (pc' := 39) i182_37 rfl ?_
    obtain ⟨r5, h3, s4, H⟩ := H
    have w7q := HW_sp (show x_okm 124 = true by rfl) s4 hw
    have w7 : HW h3 := w7q.1
    refine e_cI (w := .int r5) (As := [.ref 397, .int (-6)]) (rest := []) (pc' := 42) i182_39 rfl rfl rfl rfl (by show (Nat.beq (x_kd 124) 0 && x_is 397 _ (MC 124) 0) = true; rw [show x_kd 124 = 0 by decide +kernel, show MC 124 = 11 by decide +kernel, (x_isC (by decide) hw.1 sh397)]; rfl) s4 ?_
    refine e_rt i182_42 rfl ?_
    exact H
  · have d7 : (x_isItem x) = true := c1
    replace H := H.1 d7
    refine e_ld (pc' := 8) i182_7 rfl rfl ?_
    refine e_ld (pc' := 9) i182_8 rfl rfl ?_
    obtain ⟨r9, s8, H⟩ := H
    refine e_cI (w := .int r9) (As := [.ref 397, .int x]) (rest := []) (pc' := 12) i182_9 rfl rfl rfl rfl (by show (Nat.beq (x_kd 129) 0 && x_is 397 _ (MC 129) 0) = true; rw [show x_kd 129 = 0 by decide +kernel, show MC 129 = 11 by decide +kernel, (x_isC (by decide) hw.1 sh397)]; rfl) s8 ?_
    refine e_cn (pc' := 13) i182_12 rfl ?_
    refine e_ic (pc' := 16) i182_13 rfl (fun c10 => ?_) (fun c10 => ?_)
    · have d11 : r9 = (-1) := (of_decide_eq_true c10)
      replace H := H.1 d11
      refine e_ld (pc' := 37) i182_36 rfl rfl ?_
      refine e_cn (pc' := 39) i182_37 rfl ?_
      obtain ⟨r14, h12, s13, H⟩ := H
      have w16q := HW_sp (show x_okm 124 = true by rfl) s13 hw
      have w16 : HW h12 := w16q.1
      refine e_cI (w := .int r14) (As := [.ref 397, .int (-6)]) (rest := []) (pc' := 42) i182_39 rfl rfl rfl rfl (by show (Nat.beq (x_kd 124) 0 && x_is 397 _ (MC 124) 0) = true; rw [show x_kd 124 = 0 by decide +kernel, show MC 124 = 11 by decide +kernel, (x_isC (by decide) hw.1 sh397)]; rfl) s13 ?_
      refine e_rt i182_42 rfl ?_
      exact H
    · have d16 : ¬ (r9 = (-1)) := (of_decide_eq_false c10)
      replace H := H.2 d16
      refine e_ld (pc' := 17) i182_16 rfl rfl ?_
      refine e_cn (pc' := 18) i182_17 rfl ?_
      refine e_cn (pc' := 20) i182_18 rfl ?_
      refine e_cI (w := .int (b2i (x_in3 y 1 60))) (As := [.int y, .int 1, .int 60]) (rest := []) (pc' := 23) i182_20 rfl rfl rfl rfl rfl m123 ?_
      refine e_b0 (pc' := 26) i182_23 rfl (fun c17 => ?_) (fun c17 => ?_)
      · have d18 : ¬ ((x_in3 y 1 60) = true) := (show ¬ (x_in3 y 1 60) = true by rw [c17]; decide)
        replace H := H.2 d18
        refine e_ld (pc' := 37) i182_36 rfl rfl ?_
        refine e_cn (pc' := 39) i182_37 rfl ?_
        obtain ⟨r21, h19, s20, H⟩ := H
        have w23q := HW_sp (show x_okm 124 = true by rfl) s20 hw
        have w23 : HW h19 := w23q.1
        refine e_cI (w := .int r21) (As := [.ref 397, .int (-6)]) (rest := []) (pc' := 42) i182_39 rfl rfl rfl rfl (by show (Nat.beq (x_kd 124) 0 && x_is 397 _ (MC 124) 0) = true; rw [show x_kd 124 = 0 by decide +kernel, show MC 124 = 11 by decide +kernel, (x_isC (by decide) hw.1 sh397)]; rfl) s20 ?_
        refine e_rt i182_42 rfl ?_
        exact H
      · have d23 : (x_in3 y 1 60) = true := c17
        replace H := H.1 d23
        refine e_ld (pc' := 27) i182_26 rfl rfl ?_
        refine e_cn (pc' := 28) i182_27 rfl ?_
        refine e_cn (pc' := 30) i182_28 rfl ?_
        refine e_cI (w := .int (b2i (x_in3 z 1 60))) (As := [.int z, .int 1, .int 60]) (rest := []) (pc' := 33) i182_30 rfl rfl rfl rfl rfl m123 ?_
        refine e_b1 (pc' := 36) i182_33 rfl (fun c24 => ?_) (fun c24 => ?_)
        · have d25 : (x_in3 z 1 60) = true := c24
          replace H := H.1 d25
          refine e_ld (pc' := 44) i182_43 rfl rfl ?_
          refine e_ld (pc' := 45) i182_44 rfl rfl ?_
          obtain ⟨r27, s26, H⟩ := H
          refine e_cI (w := .int r27) (As := [.ref 397, .int x]) (rest := []) (pc' := 48) i182_45 rfl rfl rfl rfl (by show (Nat.beq (x_kd 180) 0 && x_is 397 _ (MC 180) 0) = true; rw [show x_kd 180 = 0 by decide +kernel, show MC 180 = 11 by decide +kernel, (x_isC (by decide) hw.1 sh397)]; rfl) s26 ?_
          refine e_st (ls' := [some (.ref 397), some (.int x), some (.int y), some (.int z), some (.int r27), none, none, none, none, none, none, none, none]) (pc' := 50) i182_48 rfl rfl rfl ?_
          refine e_cn (pc' := 51) i182_50 rfl ?_
          refine e_st (ls' := [some (.ref 397), some (.int x), some (.int y), some (.int z), some (.int r27), some (.int 0), none, none, none, none, none, none, none]) (pc' := 53) i182_51 rfl rfl rfl ?_
          refine e_cn (pc' := 54) i182_53 rfl ?_
          refine e_st (ls' := [some (.ref 397), some (.int x), some (.int y), some (.int z), some (.int r27), some (.int 0), some (.int 0), none, none, none, none, none, none]) (pc' := 56) i182_54 rfl rfl rfl ?_
          exact H
        · have d28 : ¬ ((x_in3 z 1 60) = true) := (show ¬ (x_in3 z 1 60) = true by rw [c24]; decide)
          replace H := H.2 d28
          refine e_ld (pc' := 37) i182_36 rfl rfl ?_
          refine e_cn (pc' := 39) i182_37 rfl ?_
          obtain ⟨r31, h29, s30, H⟩ := H
          have w33q := HW_sp (show x_okm 124 = true by rfl) s30 hw
          have w33 : HW h29 := w33q.1
          refine e_cI (w := .int r31) (As := [.ref 397, .int (-6)]) (rest := []) (pc' := 42) i182_39 rfl rfl rfl rfl (by show (Nat.beq (x_kd 124) 0 && x_is 397 _ (MC 124) 0) = true; rw [show x_kd 124 = 0 by decide +kernel, show MC 124 = 11 by decide +kernel, (x_isC (by decide) hw.1 sh397)]; rfl) s30 ?_
          refine e_rt i182_42 rfl ?_
          exact H
set_option maxHeartbeats 8000000 in
set_option maxRecDepth 100000 in
theorem v182_56 {L : Nat} {xs : Nat → Int32} {Q : Option Value → Hp → Prop} {h : Hp} {l1 : Int32} {l2 : Int32} {l3 : Int32} {l4 : Int32} {l5 : Int32} {l6 : Int32} {z7 : Option Value} {z8 : Option Value} {z9 : Option Value} {z10 : Option Value} {z11 : Option Value} {z12 : Option Value} (hw : HW h) 
  (H : (((gI h 397 1) ≤ l6) → (WP L xs 182 99 [some (.ref 397), some (.int l1), some (.int l2), some (.int l3), some (.int l4), some (.int l5), some (.int 0), z7, z8, z9, z10, z11, z12] [] h Q)) ∧ (¬ ((gI h 397 1) ≤ l6) → (∃ k4 : Nat, l6 = nI k4 ∧ k4 < 8 ∧ WP L xs 182 56 [some (.ref 397), some (.int l1), some (.int l2), some (.int l3), some (.int l4), some (.int (l5 + ((l4 >>> (((gI h 400 k4) : Int32) &&& 31)) &&& 1))), some (.int (l6 + 1)), z7, z8, z9, z10, z11, z12] [] (sI h 442 k4 0) Q))) : WP L xs 182 56 [some (.ref 397), some (.int l1), some (.int l2), some (.int l3), some (.int l4), some (.int l5), some (.int l6), z7, z8, z9, z10, z11, z12] [] h Q := by
  refine e_ld (pc' := 58) i182_56 rfl rfl ?_
  refine e_ld (pc' := 59) i182_58 rfl rfl ?_
  refine e_get (w := .int (gI h 397 1)) (pc' := 62) i182_59 rfl (x_isC (by decide) hw.1 sh397) rfl ?_
  refine e_ic (pc' := 65) i182_62 rfl (fun c1 => ?_) (fun c1 => ?_)
  · have d2 : (gI h 397 1) ≤ l6 := (of_decide_eq_true c1)
    replace H := H.1 d2
    refine e_cn (pc' := 97) i182_96 rfl ?_
    refine e_st (ls' := [some (.ref 397), some (.int l1), some (.int l2), some (.int l3), some (.int l4), some (.int l5), some (.int 0), z7, z8, z9, z10, z11, z12]) (pc' := 99) i182_97 rfl rfl rfl ?_
    exact H
  · have d3 : ¬ ((gI h 397 1) ≤ l6) := (of_decide_eq_false c1)
    replace H := H.2 d3
    refine e_ld (pc' := 67) i182_65 rfl rfl ?_
    refine e_ld (pc' := 69) i182_67 rfl rfl ?_
    refine e_ld (pc' := 70) i182_69 rfl rfl ?_
    refine e_get (w := .ref 400) (pc' := 73) i182_70 rfl (x_isC (by decide) hw.1 sh397) (x_fvR (by decide +kernel) (hw.2 397 3 400 lk397_3)) ?_
    refine e_ld (pc' := 75) i182_73 rfl rfl ?_
    obtain ⟨k4, e5, g6, H⟩ := H
    refine e_al (n := k4) (w := .int (gI h 400 k4)) (pc' := 76) i182_75 rfl (x_alE (a := 20) (by decide) hw.1 sh400 (by decide) e5 g6 (by decide)) (x_clE e5 g6 (by decide)) rfl ?_
    refine e_ib (z := l4 >>> (((gI h 400 k4) : Int32) &&& 31)) (pc' := 77) i182_76 rfl rfl ?_
    refine e_cn (pc' := 78) i182_77 rfl ?_
    refine e_ib (z := (l4 >>> (((gI h 400 k4) : Int32) &&& 31)) &&& 1) (pc' := 79) i182_78 rfl rfl ?_
    refine e_ib (z := l5 + ((l4 >>> (((gI h 400 k4) : Int32) &&& 31)) &&& 1)) (pc' := 80) i182_79 rfl rfl ?_
    refine e_st (ls' := [some (.ref 397), some (.int l1), some (.int l2), some (.int l3), some (.int l4), some (.int (l5 + ((l4 >>> (((gI h 400 k4) : Int32) &&& 31)) &&& 1))), some (.int l6), z7, z8, z9, z10, z11, z12]) (pc' := 82) i182_80 rfl rfl rfl ?_
    refine e_ld (pc' := 83) i182_82 rfl rfl ?_
    refine e_get (w := .ref 442) (pc' := 86) i182_83 rfl (x_isC (by decide) hw.1 sh397) (x_fvR (by decide +kernel) (hw.2 397 49 442 lk397_49)) ?_
    refine e_ld (pc' := 88) i182_86 rfl rfl ?_
    refine e_cn (pc' := 89) i182_88 rfl ?_
    refine e_as (n := k4) (h' := sI h 442 k4 0) (pc' := 90) i182_89 rfl (x_alE (a := 20) (by decide) hw.1 sh442 (by decide) e5 g6 (by decide)) (x_clE e5 g6 (by decide)) (by rw [(show (SH 442).1 = 20 by rw [sh442])]; rfl) ?_
    have w8 : HW (sI h 442 k4 0) := HW_sI hw
    refine e_inc (z := l6 + 1) (ls' := [some (.ref 397), some (.int l1), some (.int l2), some (.int l3), some (.int l4), some (.int (l5 + ((l4 >>> (((gI h 400 k4) : Int32) &&& 31)) &&& 1))), some (.int (l6 + 1)), z7, z8, z9, z10, z11, z12]) (pc' := 93) i182_90 rfl rfl rfl rfl ?_
    refine e_go i182_93 ?_
    exact H
set_option maxHeartbeats 8000000 in
set_option maxRecDepth 100000 in
theorem v182_99 {L : Nat} {xs : Nat → Int32} {Q : Option Value → Hp → Prop} {h : Hp} {l1 : Int32} {l2 : Int32} {l3 : Int32} {l4 : Int32} {l5 : Int32} {l6 : Int32} {z7 : Option Value} {z8 : Option Value} {z9 : Option Value} {z10 : Option Value} {z11 : Option Value} {z12 : Option Value} (hw : HW h) 
  (H : ((20 < l6) → (∃ (h3 : Hp), Sp L xs 179 [.ref 397, .int l1, .long l2.toInt64, .long l3.toInt64] h none h3 ∧ WP L xs 182 143 [some (.ref 397), some (.int l1), some (.int l2), some (.int l3), some (.int l4), some (.int l5), some (.int 0), some (.int 0), z8, z9, z10, z11, z12] [] h3 Q)) ∧ (¬ (20 < l6) → (∃ k7 : Nat, l6 = nI k7 ∧ k7 < 21 ∧ WP L xs 182 99 [some (.ref 397), some (.int l1), some (.int l2), some (.int l3), some (.int l4), some (.int l5), some (.int (l6 + 1)), z7, z8, z9, z10, z11, z12] [] (sL (sL h 439 k7 0) 440 k7 1) Q))) : WP L xs 182 99 [some (.ref 397), some (.int l1), some (.int l2), some (.int l3), some (.int l4), some (.int l5), some (.int l6), z7, z8, z9, z10, z11, z12] [] h Q := by
  refine e_ld (pc' := 101) i182_99 rfl rfl ?_
  refine e_cn (pc' := 103) i182_101 rfl ?_
  refine e_ic (pc' := 106) i182_103 rfl (fun c1 => ?_) (fun c1 => ?_)
  · have d2 : 20 < l6 := (of_decide_eq_true c1)
    replace H := H.1 d2
    refine e_ld (pc' := 129) i182_128 rfl rfl ?_
    refine e_ld (pc' := 130) i182_129 rfl rfl ?_
    refine e_ld (pc' := 131) i182_130 rfl rfl ?_
    refine e_un (pc' := 132) i182_131 rfl rfl ?_
    refine e_ld (pc' := 133) i182_132 rfl rfl ?_
    refine e_un (pc' := 134) i182_133 rfl rfl ?_
    obtain ⟨h3, s4, H⟩ := H
    have w6q := HW_sp (show x_okm 179 = true by rfl) s4 hw
    have w6 : HW h3 := w6q.1
    refine e_cV (As := [.ref 397, .int l1, .long l2.toInt64, .long l3.toInt64]) (rest := []) (pc' := 137) i182_134 rfl rfl rfl rfl (by show (Nat.beq (x_kd 179) 0 && x_is 397 _ (MC 179) 0) = true; rw [show x_kd 179 = 0 by decide +kernel, show MC 179 = 11 by decide +kernel, (x_isC (by decide) hw.1 sh397)]; rfl) s4 ?_
    refine e_cn (pc' := 138) i182_137 rfl ?_
    refine e_st (ls' := [some (.ref 397), some (.int l1), some (.int l2), some (.int l3), some (.int l4), some (.int l5), some (.int 0), z7, z8, z9, z10, z11, z12]) (pc' := 140) i182_138 rfl rfl rfl ?_
    refine e_cn (pc' := 141) i182_140 rfl ?_
    refine e_st (ls' := [some (.ref 397), some (.int l1), some (.int l2), some (.int l3), some (.int l4), some (.int l5), some (.int 0), some (.int 0), z8, z9, z10, z11, z12]) (pc' := 143) i182_141 rfl rfl rfl ?_
    exact H
  · have d6 : ¬ (20 < l6) := (of_decide_eq_false c1)
    replace H := H.2 d6
    refine e_ld (pc' := 107) i182_106 rfl rfl ?_
    refine e_get (w := .ref 439) (pc' := 110) i182_107 rfl (x_isC (by decide) hw.1 sh397) (x_fvR (by decide +kernel) (hw.2 397 46 439 lk397_46)) ?_
    refine e_ld (pc' := 112) i182_110 rfl rfl ?_
    refine e_cn (pc' := 113) i182_112 rfl ?_
    obtain ⟨k7, e8, g9, H⟩ := H
    refine e_as (n := k7) (h' := sL h 439 k7 0) (pc' := 114) i182_113 rfl (x_alE (a := 21) (by decide) hw.1 sh439 (by decide) e8 g9 (by decide)) (x_clE e8 g9 (by decide)) (by rw [(show (SH 439).1 = 21 by rw [sh439])]; rfl) ?_
    have w11 : HW (sL h 439 k7 0) := HW_sL hw
    refine e_ld (pc' := 115) i182_114 rfl rfl ?_
    refine e_get (w := .ref 440) (pc' := 118) i182_115 rfl (x_isC (by decide) w11.1 sh397) (x_fvR (by decide +kernel) (w11.2 397 47 440 lk397_47)) ?_
    refine e_ld (pc' := 120) i182_118 rfl rfl ?_
    refine e_cn (pc' := 121) i182_120 rfl ?_
    refine e_as (n := k7) (h' := sL (sL h 439 k7 0) 440 k7 1) (pc' := 122) i182_121 rfl (x_alE (a := 21) (by decide) w11.1 sh440 (by decide) e8 g9 (by decide)) (x_clE e8 g9 (by decide)) (by rw [(show (SH 440).1 = 21 by rw [sh440])]; rfl) ?_
    have w13 : HW (sL (sL h 439 k7 0) 440 k7 1) := HW_sL w11
    refine e_inc (z := l6 + 1) (ls' := [some (.ref 397), some (.int l1), some (.int l2), some (.int l3), some (.int l4), some (.int l5), some (.int (l6 + 1)), z7, z8, z9, z10, z11, z12]) (pc' := 125) i182_122 rfl rfl rfl rfl ?_
    refine e_go i182_125 ?_
    exact H
set_option maxHeartbeats 8000000 in
set_option maxRecDepth 100000 in
theorem v182_143 {L : Nat} {xs : Nat → Int32} {Q : Option Value → Hp → Prop} {h : Hp} {z1 : Option Value} {z2 : Option Value} {z3 : Option Value} {l4 : Int32} {l5 : Int32} {l6 : Int32} {l7 : Int32} {z8 : Option Value} {z9 : Option Value} {z10 : Option Value} {z11 : Option Value} {z12 : Option Value} (hw : HW h) 
  (H : ((l5 ≤ 0) → (WP L xs 182 339 [some (.ref 397), z1, z2, z3, some (.int l4), some (.int l5), some (.int l6), some (.int l7), some (.int 0), z9, z10, z11, z12] [] h Q)) ∧ (¬ (l5 ≤ 0) → (∃ (r5 : Int32), Sp L xs 181 [.ref 397, .int l4, .int l6] h (some (.int r5)) h ∧ ((r5 = (-1)) → (∃ (r35 : Int32) (h33 : Hp), Sp L xs 124 [.ref 397, .int (-6)] h (some (.int r35)) h33 ∧ Q (some (.int r35)) h33)) ∧ (¬ (r5 = (-1)) → (∃ k8 : Nat, r5 = nI k8 ∧ k8 < 8 ∧ ∃ k11 : Nat, (gI h 400 k8) = nI k11 ∧ k11 < 21 ∧ (¬ ((gL h 440 k11) * ((gI h 399 k8).toInt64)) = 0) ∧ ∀ y16 : Int32, y16 = l7 + (gI (sI h 442 k8 ((((((gL h 439 k11) * ((gI h 401 k8).toInt64)) + ((gL h 440 k11) * ((gI h 399 k8).toInt64))) - 1) / ((gL h 440 k11) * ((gI h 399 k8).toInt64))).toInt32)) 442 k8) → ∃ k17 : Nat, (2 * r5) = nI k17 ∧ k17 < 16 ∧ ∃ (h20 : Hp), Sp L xs 179 [.ref 397, .int (gI h 402 k17), .long ((gL h 439 k11) * ((gI h 403 k17).toInt64)), .long ((gL h 440 k11) * ((gI h 399 k8).toInt64))] (sI h 442 k8 ((((((gL h 439 k11) * ((gI h 401 k8).toInt64)) + ((gL h 440 k11) * ((gI h 399 k8).toInt64))) - 1) / ((gL h 440 k11) * ((gI h 399 k8).toInt64))).toInt32)) none h20 ∧ ∃ k23 : Nat, ((2 * r5) + 1) = nI k23 ∧ k23 < 16 ∧ (((gI h20 402 k23) = 0) → (WP L xs 182 143 [some (.ref 397), z1, z2, z3, some (.int l4), some (.int (l5 + (-1))), some (.int (l6 ||| (1 <<< ((r5 : Int32) &&& 31)))), some (.int y16), some (.int r5), some (.long (gL h 439 k11)), none, some (.long ((gL h 440 k11) * ((gI h 399 k8).toInt64))), none] [] h20 Q)) ∧ (¬ ((gI h20 402 k23) = 0) → (∃ (h29 : Hp), Sp L xs 179 [.ref 397, .int (gI h20 402 k23), .long ((gL h 439 k11) * ((gI h20 403 k23).toInt64)), .long ((gL h 440 k11) * ((gI h 399 k8).toInt64))] h20 none h29 ∧ WP L xs 182 143 [some (.ref 397), z1, z2, z3, some (.int l4), some (.int (l5 + (-1))), some (.int (l6 ||| (1 <<< ((r5 : Int32) &&& 31)))), some (.int y16), some (.int r5), some (.long (gL h 439 k11)), none, some (.long ((gL h 440 k11) * ((gI h 399 k8).toInt64))), none] [] h29 Q))))))) : WP L xs 182 143 [some (.ref 397), z1, z2, z3, some (.int l4), some (.int l5), some (.int l6), some (.int l7), z8, z9, z10, z11, z12] [] h Q := by
  refine e_ld (pc' := 145) i182_143 rfl rfl ?_
  refine e_if (pc' := 148) i182_145 rfl (fun c1 => ?_) (fun c1 => ?_)
  · have d2 : l5 ≤ 0 := (of_decide_eq_true c1)
    replace H := H.1 d2
    refine e_cn (pc' := 337) i182_336 rfl ?_
    refine e_st (ls' := [some (.ref 397), z1, z2, z3, some (.int l4), some (.int l5), some (.int l6), some (.int l7), some (.int 0), z9, z10, z11, z12]) (pc' := 339) i182_337 rfl rfl rfl ?_
    exact H
  · have d3 : ¬ (l5 ≤ 0) := (of_decide_eq_false c1)
    replace H := H.2 d3
    refine e_ld (pc' := 149) i182_148 rfl rfl ?_
    refine e_ld (pc' := 151) i182_149 rfl rfl ?_
    refine e_ld (pc' := 153) i182_151 rfl rfl ?_
    obtain ⟨r5, s4, H⟩ := H
    refine e_cI (w := .int r5) (As := [.ref 397, .int l4, .int l6]) (rest := []) (pc' := 156) i182_153 rfl rfl rfl rfl (by show (Nat.beq (x_kd 181) 0 && x_is 397 _ (MC 181) 0) = true; rw [show x_kd 181 = 0 by decide +kernel, show MC 181 = 11 by decide +kernel, (x_isC (by decide) hw.1 sh397)]; rfl) s4 ?_
    refine e_st (ls' := [some (.ref 397), z1, z2, z3, some (.int l4), some (.int l5), some (.int l6), some (.int l7), some (.int r5), z9, z10, z11, z12]) (pc' := 158) i182_156 rfl rfl rfl ?_
    refine e_ld (pc' := 160) i182_158 rfl rfl ?_
    refine e_cn (pc' := 161) i182_160 rfl ?_
    refine e_ic (pc' := 164) i182_161 rfl (fun c6 => ?_) (fun c6 => ?_)
    · have d7 : ¬ (r5 = (-1)) := (of_decide_eq_true c6)
      replace H := H.2 d7
      refine e_ld (pc' := 173) i182_171 rfl rfl ?_
      refine e_cn (pc' := 174) i182_173 rfl ?_
      refine e_ld (pc' := 176) i182_174 rfl rfl ?_
      refine e_ib (z := 1 <<< ((r5 : Int32) &&& 31)) (pc' := 177) i182_176 rfl rfl ?_
      refine e_ib (z := l6 ||| (1 <<< ((r5 : Int32) &&& 31))) (pc' := 178) i182_177 rfl rfl ?_
      refine e_st (ls' := [some (.ref 397), z1, z2, z3, some (.int l4), some (.int l5), some (.int (l6 ||| (1 <<< ((r5 : Int32) &&& 31)))), some (.int l7), some (.int r5), z9, z10, z11, z12]) (pc' := 180) i182_178 rfl rfl rfl ?_
      refine e_inc (z := l5 + (-1)) (ls' := [some (.ref 397), z1, z2, z3, some (.int l4), some (.int (l5 + (-1))), some (.int (l6 ||| (1 <<< ((r5 : Int32) &&& 31)))), some (.int l7), some (.int r5), z9, z10, z11, z12]) (pc' := 183) i182_180 rfl rfl rfl rfl ?_
      refine e_ld (pc' := 184) i182_183 rfl rfl ?_
      refine e_get (w := .ref 439) (pc' := 187) i182_184 rfl (x_isC (by decide) hw.1 sh397) (x_fvR (by decide +kernel) (hw.2 397 46 439 lk397_46)) ?_
      refine e_ld (pc' := 188) i182_187 rfl rfl ?_
      refine e_get (w := .ref 400) (pc' := 191) i182_188 rfl (x_isC (by decide) hw.1 sh397) (x_fvR (by decide +kernel) (hw.2 397 3 400 lk397_3)) ?_
      refine e_ld (pc' := 193) i182_191 rfl rfl ?_
      obtain ⟨k8, e9, g10, H⟩ := H
      refine e_al (n := k8) (w := .int (gI h 400 k8)) (pc' := 194) i182_193 rfl (x_alE (a := 20) (by decide) hw.1 sh400 (by decide) e9 g10 (by decide)) (x_clE e9 g10 (by decide)) rfl ?_
      obtain ⟨k11, e12, g13, H⟩ := H
      refine e_al (n := k11) (w := .long (gL h 439 k11)) (pc' := 195) i182_194 rfl (x_alE (a := 21) (by decide) hw.1 sh439 (by decide) e12 g13 (by decide)) (x_clE e12 g13 (by decide)) rfl ?_
      refine e_st (ls' := [some (.ref 397), z1, z2, z3, some (.int l4), some (.int (l5 + (-1))), some (.int (l6 ||| (1 <<< ((r5 : Int32) &&& 31)))), some (.int l7), some (.int r5), some (.long (gL h 439 k11)), none, z11, z12]) (pc' := 197) i182_195 rfl rfl rfl ?_
      refine e_ld (pc' := 198) i182_197 rfl rfl ?_
      refine e_get (w := .ref 440) (pc' := 201) i182_198 rfl (x_isC (by decide) hw.1 sh397) (x_fvR (by decide +kernel) (hw.2 397 47 440 lk397_47)) ?_
      refine e_ld (pc' := 202) i182_201 rfl rfl ?_
      refine e_get (w := .ref 400) (pc' := 205) i182_202 rfl (x_isC (by decide) hw.1 sh397) (x_fvR (by decide +kernel) (hw.2 397 3 400 lk397_3)) ?_
      refine e_ld (pc' := 207) i182_205 rfl rfl ?_
      refine e_al (n := k8) (w := .int (gI h 400 k8)) (pc' := 208) i182_207 rfl (x_alE (a := 20) (by decide) hw.1 sh400 (by decide) e9 g10 (by decide)) (x_clE e9 g10 (by decide)) rfl ?_
      refine e_al (n := k11) (w := .long (gL h 440 k11)) (pc' := 209) i182_208 rfl (x_alE (a := 21) (by decide) hw.1 sh440 (by decide) e12 g13 (by decide)) (x_clE e12 g13 (by decide)) rfl ?_
      refine e_ld (pc' := 210) i182_209 rfl rfl ?_
      refine e_get (w := .ref 399) (pc' := 213) i182_210 rfl (x_isC (by decide) hw.1 sh397) (x_fvR (by decide +kernel) (hw.2 397 2 399 lk397_2)) ?_
      refine e_ld (pc' := 215) i182_213 rfl rfl ?_
      refine e_al (n := k8) (w := .int (gI h 399 k8)) (pc' := 216) i182_215 rfl (x_alE (a := 20) (by decide) hw.1 sh399 (by decide) e9 g10 (by decide)) (x_clE e9 g10 (by decide)) rfl ?_
      refine e_un (pc' := 217) i182_216 rfl rfl ?_
      refine e_lb (z := (gL h 440 k11) * ((gI h 399 k8).toInt64)) (pc' := 218) i182_217 rfl rfl ?_
      refine e_st (ls' := [some (.ref 397), z1, z2, z3, some (.int l4), some (.int (l5 + (-1))), some (.int (l6 ||| (1 <<< ((r5 : Int32) &&& 31)))), some (.int l7), some (.int r5), some (.long (gL h 439 k11)), none, some (.long ((gL h 440 k11) * ((gI h 399 k8).toInt64))), none]) (pc' := 220) i182_218 rfl rfl rfl ?_
      refine e_ld (pc' := 221) i182_220 rfl rfl ?_
      refine e_get (w := .ref 442) (pc' := 224) i182_221 rfl (x_isC (by decide) hw.1 sh397) (x_fvR (by decide +kernel) (hw.2 397 49 442 lk397_49)) ?_
      refine e_ld (pc' := 226) i182_224 rfl rfl ?_
      refine e_ld (pc' := 228) i182_226 rfl rfl ?_
      refine e_ld (pc' := 229) i182_228 rfl rfl ?_
      refine e_get (w := .ref 401) (pc' := 232) i182_229 rfl (x_isC (by decide) hw.1 sh397) (x_fvR (by decide +kernel) (hw.2 397 4 401 lk397_4)) ?_
      refine e_ld (pc' := 234) i182_232 rfl rfl ?_
      refine e_al (n := k8) (w := .int (gI h 401 k8)) (pc' := 235) i182_234 rfl (x_alE (a := 20) (by decide) hw.1 sh401 (by decide) e9 g10 (by decide)) (x_clE e9 g10 (by decide)) rfl ?_
      refine e_un (pc' := 236) i182_235 rfl rfl ?_
      refine e_lb (z := (gL h 439 k11) * ((gI h 401 k8).toInt64)) (pc' := 237) i182_236 rfl rfl ?_
      refine e_ld (pc' := 239) i182_237 rfl rfl ?_
      refine e_lb (z := ((gL h 439 k11) * ((gI h 401 k8).toInt64)) + ((gL h 440 k11) * ((gI h 399 k8).toInt64))) (pc' := 240) i182_239 rfl rfl ?_
      refine e_cn (pc' := 241) i182_240 rfl ?_
      refine e_lb (z := (((gL h 439 k11) * ((gI h 401 k8).toInt64)) + ((gL h 440 k11) * ((gI h 399 k8).toInt64))) - 1) (pc' := 242) i182_241 rfl rfl ?_
      refine e_ld (pc' := 244) i182_242 rfl rfl ?_
      obtain ⟨g14, H⟩ := H
      refine e_lb (z := ((((gL h 439 k11) * ((gI h 401 k8).toInt64)) + ((gL h 440 k11) * ((gI h 399 k8).toInt64))) - 1) / ((gL h 440 k11) * ((gI h 399 k8).toInt64))) (pc' := 245) i182_244 rfl (x_lb_div g14) ?_
      refine e_un (pc' := 246) i182_245 rfl rfl ?_
      refine e_as (n := k8) (h' := sI h 442 k8 ((((((gL h 439 k11) * ((gI h 401 k8).toInt64)) + ((gL h 440 k11) * ((gI h 399 k8).toInt64))) - 1) / ((gL h 440 k11) * ((gI h 399 k8).toInt64))).toInt32)) (pc' := 247) i182_246 rfl (x_alE (a := 20) (by decide) hw.1 sh442 (by decide) e9 g10 (by decide)) (x_clE e9 g10 (by decide)) (by rw [(show (SH 442).1 = 20 by rw [sh442])]; rfl) ?_
      have w16 : HW (sI h 442 k8 ((((((gL h 439 k11) * ((gI h 401 k8).toInt64)) + ((gL h 440 k11) * ((gI h 399 k8).toInt64))) - 1) / ((gL h 440 k11) * ((gI h 399 k8).toInt64))).toInt32)) := HW_sI hw
      refine e_ld (pc' := 249) i182_247 rfl rfl ?_
      refine e_ld (pc' := 250) i182_249 rfl rfl ?_
      refine e_get (w := .ref 442) (pc' := 253) i182_250 rfl (x_isC (by decide) w16.1 sh397) (x_fvR (by decide +kernel) (w16.2 397 49 442 lk397_49)) ?_
      refine e_ld (pc' := 255) i182_253 rfl rfl ?_
      refine e_al (n := k8) (w := .int (gI (sI h 442 k8 ((((((gL h 439 k11) * ((gI h 401 k8).toInt64)) + ((gL h 440 k11) * ((gI h 399 k8).toInt64))) - 1) / ((gL h 440 k11) * ((gI h 399 k8).toInt64))).toInt32)) 442 k8)) (pc' := 256) i182_255 rfl (x_alE (a := 20) (by decide) w16.1 sh442 (by decide) e9 g10 (by decide)) (x_clE e9 g10 (by decide)) rfl ?_
      refine e_ib (z := l7 + (gI (sI h 442 k8 ((((((gL h 439 k11) * ((gI h 401 k8).toInt64)) + ((gL h 440 k11) * ((gI h 399 k8).toInt64))) - 1) / ((gL h 440 k11) * ((gI h 399 k8).toInt64))).toInt32)) 442 k8)) (pc' := 257) i182_256 rfl rfl ?_
      replace H := H _ rfl
      generalize l7 + (gI (sI h 442 k8 ((((((gL h 439 k11) * ((gI h 401 k8).toInt64)) + ((gL h 440 k11) * ((gI h 399 k8).toInt64))) - 1) / ((gL h 440 k11) * ((gI h 399 k8).toInt64))).toInt32)) 442 k8) = y16 at H ⊢
      refine e_st (ls' := [some (.ref 397), z1, z2, z3, some (.int l4), some (.int (l5 + (-1))), some (.int (l6 ||| (1 <<< ((r5 : Int32) &&& 31)))), some (.int y16), some (.int r5), some (.long (gL h 439 k11)), none, some (.long ((gL h 440 k11) * ((gI h 399 k8).toInt64))), none]) (pc' := 259) i182_257 rfl rfl rfl ?_
      refine e_ld (pc' := 260) i182_259 rfl rfl ?_
      refine e_ld (pc' := 261) i182_260 rfl rfl ?_
      refine e_get (w := .ref 402) (pc' := 264) i182_261 rfl (x_isC (by decide) w16.1 sh397) (x_fvR (by decide +kernel) (w16.2 397 5 402 lk397_5)) ?_
      refine e_cn (pc' := 265) i182_264 rfl ?_
      refine e_ld (pc' := 267) i182_265 rfl rfl ?_
      refine e_ib (z := 2 * r5) (pc' := 268) i182_267 rfl rfl ?_
      obtain ⟨k17, e18, g19, H⟩ := H
      refine e_al (n := k17) (w := .int (gI h 402 k17)) (pc' := 269) i182_268 rfl (x_alE (a := 20) (by decide) w16.1 sh402 (by decide) e18 g19 (by decide)) (x_clE e18 g19 (by decide)) (congrArg Value.int (gI_osI (by decide))) ?_
      refine e_ld (pc' := 271) i182_269 rfl rfl ?_
      refine e_ld (pc' := 272) i182_271 rfl rfl ?_
      refine e_get (w := .ref 403) (pc' := 275) i182_272 rfl (x_isC (by decide) w16.1 sh397) (x_fvR (by decide +kernel) (w16.2 397 6 403 lk397_6)) ?_
      refine e_cn (pc' := 276) i182_275 rfl ?_
      refine e_ld (pc' := 278) i182_276 rfl rfl ?_
      refine e_ib (z := 2 * r5) (pc' := 279) i182_278 rfl rfl ?_
      refine e_al (n := k17) (w := .int (gI h 403 k17)) (pc' := 280) i182_279 rfl (x_alE (a := 20) (by decide) w16.1 sh403 (by decide) e18 g19 (by decide)) (x_clE e18 g19 (by decide)) (congrArg Value.int (gI_osI (by decide))) ?_
      refine e_un (pc' := 281) i182_280 rfl rfl ?_
      refine e_lb (z := (gL h 439 k11) * ((gI h 403 k17).toInt64)) (pc' := 282) i182_281 rfl rfl ?_
      refine e_ld (pc' := 284) i182_282 rfl rfl ?_
      obtain ⟨h20, s21, H⟩ := H
      have w24q := HW_sp (show x_okm 179 = true by rfl) s21 w16
      have w24 : HW h20 := w24q.1
      refine e_cV (As := [.ref 397, .int (gI h 402 k17), .long ((gL h 439 k11) * ((gI h 403 k17).toInt64)), .long ((gL h 440 k11) * ((gI h 399 k8).toInt64))]) (rest := []) (pc' := 287) i182_284 rfl rfl rfl rfl (by show (Nat.beq (x_kd 179) 0 && x_is 397 _ (MC 179) 0) = true; rw [show x_kd 179 = 0 by decide +kernel, show MC 179 = 11 by decide +kernel, (x_isC (by decide) w16.1 sh397)]; rfl) s21 ?_
      refine e_ld (pc' := 288) i182_287 rfl rfl ?_
      refine e_get (w := .ref 402) (pc' := 291) i182_288 rfl (x_isC (by decide) w24.1 sh397) (x_fvR (by decide +kernel) (w24.2 397 5 402 lk397_5)) ?_
      refine e_cn (pc' := 292) i182_291 rfl ?_
      refine e_ld (pc' := 294) i182_292 rfl rfl ?_
      refine e_ib (z := 2 * r5) (pc' := 295) i182_294 rfl rfl ?_
      refine e_cn (pc' := 296) i182_295 rfl ?_
      refine e_ib (z := (2 * r5) + 1) (pc' := 297) i182_296 rfl rfl ?_
      obtain ⟨k23, e24, g25, H⟩ := H
      refine e_al (n := k23) (w := .int (gI h20 402 k23)) (pc' := 298) i182_297 rfl (x_alE (a := 20) (by decide) w24.1 sh402 (by decide) e24 g25 (by decide)) (x_clE e24 g25 (by decide)) rfl ?_
      refine e_if (pc' := 301) i182_298 rfl (fun c26 => ?_) (fun c26 => ?_)
      · have d27 : (gI h20 402 k23) = 0 := (of_decide_eq_true c26)
        replace H := H.1 d27
        refine e_go i182_333 ?_
        exact H
      · have d28 : ¬ ((gI h20 402 k23) = 0) := (of_decide_eq_false c26)
        replace H := H.2 d28
        refine e_ld (pc' := 302) i182_301 rfl rfl ?_
        refine e_ld (pc' := 303) i182_302 rfl rfl ?_
        refine e_get (w := .ref 402) (pc' := 306) i182_303 rfl (x_isC (by decide) w24.1 sh397) (x_fvR (by decide +kernel) (w24.2 397 5 402 lk397_5)) ?_
        refine e_cn (pc' := 307) i182_306 rfl ?_
        refine e_ld (pc' := 309) i182_307 rfl rfl ?_
        refine e_ib (z := 2 * r5) (pc' := 310) i182_309 rfl rfl ?_
        refine e_cn (pc' := 311) i182_310 rfl ?_
        refine e_ib (z := (2 * r5) + 1) (pc' := 312) i182_311 rfl rfl ?_
        refine e_al (n := k23) (w := .int (gI h20 402 k23)) (pc' := 313) i182_312 rfl (x_alE (a := 20) (by decide) w24.1 sh402 (by decide) e24 g25 (by decide)) (x_clE e24 g25 (by decide)) rfl ?_
        refine e_ld (pc' := 315) i182_313 rfl rfl ?_
        refine e_ld (pc' := 316) i182_315 rfl rfl ?_
        refine e_get (w := .ref 403) (pc' := 319) i182_316 rfl (x_isC (by decide) w24.1 sh397) (x_fvR (by decide +kernel) (w24.2 397 6 403 lk397_6)) ?_
        refine e_cn (pc' := 320) i182_319 rfl ?_
        refine e_ld (pc' := 322) i182_320 rfl rfl ?_
        refine e_ib (z := 2 * r5) (pc' := 323) i182_322 rfl rfl ?_
        refine e_cn (pc' := 324) i182_323 rfl ?_
        refine e_ib (z := (2 * r5) + 1) (pc' := 325) i182_324 rfl rfl ?_
        refine e_al (n := k23) (w := .int (gI h20 403 k23)) (pc' := 326) i182_325 rfl (x_alE (a := 20) (by decide) w24.1 sh403 (by decide) e24 g25 (by decide)) (x_clE e24 g25 (by decide)) rfl ?_
        refine e_un (pc' := 327) i182_326 rfl rfl ?_
        refine e_lb (z := (gL h 439 k11) * ((gI h20 403 k23).toInt64)) (pc' := 328) i182_327 rfl rfl ?_
        refine e_ld (pc' := 330) i182_328 rfl rfl ?_
        obtain ⟨h29, s30, H⟩ := H
        have w34q := HW_sp (show x_okm 179 = true by rfl) s30 w24
        have w34 : HW h29 := w34q.1
        refine e_cV (As := [.ref 397, .int (gI h20 402 k23), .long ((gL h 439 k11) * ((gI h20 403 k23).toInt64)), .long ((gL h 440 k11) * ((gI h 399 k8).toInt64))]) (rest := []) (pc' := 333) i182_330 rfl rfl rfl rfl (by show (Nat.beq (x_kd 179) 0 && x_is 397 _ (MC 179) 0) = true; rw [show x_kd 179 = 0 by decide +kernel, show MC 179 = 11 by decide +kernel, (x_isC (by decide) w24.1 sh397)]; rfl) s30 ?_
        refine e_go i182_333 ?_
        exact H
    · have d32 : r5 = (-1) := (Decidable.not_not.mp (of_decide_eq_false c6))
      replace H := H.1 d32
      refine e_ld (pc' := 165) i182_164 rfl rfl ?_
      refine e_cn (pc' := 167) i182_165 rfl ?_
      obtain ⟨r35, h33, s34, H⟩ := H
      have w37q := HW_sp (show x_okm 124 = true by rfl) s34 hw
      have w37 : HW h33 := w37q.1
      refine e_cI (w := .int r35) (As := [.ref 397, .int (-6)]) (rest := []) (pc' := 170) i182_167 rfl rfl rfl rfl (by show (Nat.beq (x_kd 124) 0 && x_is 397 _ (MC 124) 0) = true; rw [show x_kd 124 = 0 by decide +kernel, show MC 124 = 11 by decide +kernel, (x_isC (by decide) hw.1 sh397)]; rfl) s34 ?_
      refine e_rt i182_170 rfl ?_
      exact H
set_option maxHeartbeats 8000000 in
set_option maxRecDepth 100000 in
theorem v182_339 {L : Nat} {xs : Nat → Int32} {Q : Option Value → Hp → Prop} {h : Hp} {z1 : Option Value} {z2 : Option Value} {z3 : Option Value} {z4 : Option Value} {z5 : Option Value} {z6 : Option Value} {l7 : Int32} {l8 : Int32} {z9 : Option Value} {z10 : Option Value} {z11 : Option Value} {z12 : Option Value} (hw : HW h) 
  (H : ((20 < l8) → (WP L xs 182 383 [some (.ref 397), z1, z2, z3, z4, z5, z6, some (.int l7), some (.int 0), z9, z10, z11, z12] [] h Q)) ∧ (¬ (20 < l8) → (∃ k4 : Nat, l8 = nI k4 ∧ k4 < 21 ∧ WP L xs 182 339 [some (.ref 397), z1, z2, z3, z4, z5, z6, some (.int l7), some (.int (l8 + 1)), z9, z10, z11, z12] [] (sL (sL h 437 k4 (gL h 439 k4)) 438 k4 (gL h 440 k4)) Q))) : WP L xs 182 339 [some (.ref 397), z1, z2, z3, z4, z5, z6, some (.int l7), some (.int l8), z9, z10, z11, z12] [] h Q := by
  refine e_ld (pc' := 341) i182_339 rfl rfl ?_
  refine e_cn (pc' := 343) i182_341 rfl ?_
  refine e_ic (pc' := 346) i182_343 rfl (fun c1 => ?_) (fun c1 => ?_)
  · have d2 : 20 < l8 := (of_decide_eq_true c1)
    replace H := H.1 d2
    refine e_cn (pc' := 381) i182_380 rfl ?_
    refine e_st (ls' := [some (.ref 397), z1, z2, z3, z4, z5, z6, some (.int l7), some (.int 0), z9, z10, z11, z12]) (pc' := 383) i182_381 rfl rfl rfl ?_
    exact H
  · have d3 : ¬ (20 < l8) := (of_decide_eq_false c1)
    replace H := H.2 d3
    refine e_ld (pc' := 347) i182_346 rfl rfl ?_
    refine e_get (w := .ref 437) (pc' := 350) i182_347 rfl (x_isC (by decide) hw.1 sh397) (x_fvR (by decide +kernel) (hw.2 397 44 437 lk397_44)) ?_
    refine e_ld (pc' := 352) i182_350 rfl rfl ?_
    refine e_ld (pc' := 353) i182_352 rfl rfl ?_
    refine e_get (w := .ref 439) (pc' := 356) i182_353 rfl (x_isC (by decide) hw.1 sh397) (x_fvR (by decide +kernel) (hw.2 397 46 439 lk397_46)) ?_
    refine e_ld (pc' := 358) i182_356 rfl rfl ?_
    obtain ⟨k4, e5, g6, H⟩ := H
    refine e_al (n := k4) (w := .long (gL h 439 k4)) (pc' := 359) i182_358 rfl (x_alE (a := 21) (by decide) hw.1 sh439 (by decide) e5 g6 (by decide)) (x_clE e5 g6 (by decide)) rfl ?_
    refine e_as (n := k4) (h' := sL h 437 k4 (gL h 439 k4)) (pc' := 360) i182_359 rfl (x_alE (a := 21) (by decide) hw.1 sh437 (by decide) e5 g6 (by decide)) (x_clE e5 g6 (by decide)) (by rw [(show (SH 437).1 = 21 by rw [sh437])]; rfl) ?_
    have w8 : HW (sL h 437 k4 (gL h 439 k4)) := HW_sL hw
    refine e_ld (pc' := 361) i182_360 rfl rfl ?_
    refine e_get (w := .ref 438) (pc' := 364) i182_361 rfl (x_isC (by decide) w8.1 sh397) (x_fvR (by decide +kernel) (w8.2 397 45 438 lk397_45)) ?_
    refine e_ld (pc' := 366) i182_364 rfl rfl ?_
    refine e_ld (pc' := 367) i182_366 rfl rfl ?_
    refine e_get (w := .ref 440) (pc' := 370) i182_367 rfl (x_isC (by decide) w8.1 sh397) (x_fvR (by decide +kernel) (w8.2 397 47 440 lk397_47)) ?_
    refine e_ld (pc' := 372) i182_370 rfl rfl ?_
    refine e_al (n := k4) (w := .long (gL h 440 k4)) (pc' := 373) i182_372 rfl (x_alE (a := 21) (by decide) w8.1 sh440 (by decide) e5 g6 (by decide)) (x_clE e5 g6 (by decide)) (congrArg Value.long (gL_osL (by decide))) ?_
    refine e_as (n := k4) (h' := sL (sL h 437 k4 (gL h 439 k4)) 438 k4 (gL h 440 k4)) (pc' := 374) i182_373 rfl (x_alE (a := 21) (by decide) w8.1 sh438 (by decide) e5 g6 (by decide)) (x_clE e5 g6 (by decide)) (by rw [(show (SH 438).1 = 21 by rw [sh438])]; rfl) ?_
    have w10 : HW (sL (sL h 437 k4 (gL h 439 k4)) 438 k4 (gL h 440 k4)) := HW_sL w8
    refine e_inc (z := l8 + 1) (ls' := [some (.ref 397), z1, z2, z3, z4, z5, z6, some (.int l7), some (.int (l8 + 1)), z9, z10, z11, z12]) (pc' := 377) i182_374 rfl rfl rfl rfl ?_
    refine e_go i182_377 ?_
    exact H
set_option maxHeartbeats 8000000 in
set_option maxRecDepth 100000 in
theorem v182_383 {L : Nat} {xs : Nat → Int32} {Q : Option Value → Hp → Prop} {h : Hp} {z1 : Option Value} {z2 : Option Value} {z3 : Option Value} {z4 : Option Value} {z5 : Option Value} {z6 : Option Value} {l7 : Int32} {l8 : Int32} {z9 : Option Value} {z10 : Option Value} {z11 : Option Value} {z12 : Option Value} (hw : HW h) 
  (H : ((8 ≤ l8) → (Q (some (.int l7)) h)) ∧ (¬ (8 ≤ l8) → ((((gI h 397 1) ≤ l8) → (∃ k6 : Nat, l8 = nI k6 ∧ k6 < 8 ∧ WP L xs 182 383 [some (.ref 397), z1, z2, z3, z4, z5, z6, some (.int l7), some (.int (l8 + 1)), z9, z10, z11, z12] [] (sI h 441 k6 0) Q)) ∧ (¬ ((gI h 397 1) ≤ l8) → (∃ k11 : Nat, l8 = nI k11 ∧ k11 < 8 ∧ WP L xs 182 383 [some (.ref 397), z1, z2, z3, z4, z5, z6, some (.int l7), some (.int (l8 + 1)), z9, z10, z11, z12] [] (sI h 441 k11 (gI h 442 k11)) Q))))) : WP L xs 182 383 [some (.ref 397), z1, z2, z3, z4, z5, z6, some (.int l7), some (.int l8), z9, z10, z11, z12] [] h Q := by
  refine e_ld (pc' := 385) i182_383 rfl rfl ?_
  refine e_cn (pc' := 387) i182_385 rfl ?_
  refine e_ic (pc' := 390) i182_387 rfl (fun c1 => ?_) (fun c1 => ?_)
  · have d2 : 8 ≤ l8 := (of_decide_eq_true c1)
    replace H := H.1 d2
    refine e_ld (pc' := 425) i182_423 rfl rfl ?_
    refine e_rt i182_425 rfl ?_
    exact H
  · have d3 : ¬ (8 ≤ l8) := (of_decide_eq_false c1)
    replace H := H.2 d3
    refine e_ld (pc' := 391) i182_390 rfl rfl ?_
    refine e_get (w := .ref 441) (pc' := 394) i182_391 rfl (x_isC (by decide) hw.1 sh397) (x_fvR (by decide +kernel) (hw.2 397 48 441 lk397_48)) ?_
    refine e_ld (pc' := 396) i182_394 rfl rfl ?_
    refine e_ld (pc' := 398) i182_396 rfl rfl ?_
    refine e_ld (pc' := 399) i182_398 rfl rfl ?_
    refine e_get (w := .int (gI h 397 1)) (pc' := 402) i182_399 rfl (x_isC (by decide) hw.1 sh397) rfl ?_
    refine e_ic (pc' := 405) i182_402 rfl (fun c4 => ?_) (fun c4 => ?_)
    · have d5 : (gI h 397 1) ≤ l8 := (of_decide_eq_true c4)
      replace H := H.1 d5
      refine e_cn (pc' := 416) i182_415 rfl ?_
      obtain ⟨k6, e7, g8, H⟩ := H
      refine e_as (n := k6) (h' := sI h 441 k6 0) (pc' := 417) i182_416 rfl (x_alE (a := 20) (by decide) hw.1 sh441 (by decide) e7 g8 (by decide)) (x_clE e7 g8 (by decide)) (by rw [(show (SH 441).1 = 20 by rw [sh441])]; rfl) ?_
      have w10 : HW (sI h 441 k6 0) := HW_sI hw
      refine e_inc (z := l8 + 1) (ls' := [some (.ref 397), z1, z2, z3, z4, z5, z6, some (.int l7), some (.int (l8 + 1)), z9, z10, z11, z12]) (pc' := 420) i182_417 rfl rfl rfl rfl ?_
      refine e_go i182_420 ?_
      exact H
    · have d10 : ¬ ((gI h 397 1) ≤ l8) := (of_decide_eq_false c4)
      replace H := H.2 d10
      refine e_ld (pc' := 406) i182_405 rfl rfl ?_
      refine e_get (w := .ref 442) (pc' := 409) i182_406 rfl (x_isC (by decide) hw.1 sh397) (x_fvR (by decide +kernel) (hw.2 397 49 442 lk397_49)) ?_
      refine e_ld (pc' := 411) i182_409 rfl rfl ?_
      obtain ⟨k11, e12, g13, H⟩ := H
      refine e_al (n := k11) (w := .int (gI h 442 k11)) (pc' := 412) i182_411 rfl (x_alE (a := 20) (by decide) hw.1 sh442 (by decide) e12 g13 (by decide)) (x_clE e12 g13 (by decide)) rfl ?_
      refine e_go i182_412 ?_
      refine e_as (n := k11) (h' := sI h 441 k11 (gI h 442 k11)) (pc' := 417) i182_416 rfl (x_alE (a := 20) (by decide) hw.1 sh441 (by decide) e12 g13 (by decide)) (x_clE e12 g13 (by decide)) (by rw [(show (SH 441).1 = 20 by rw [sh441])]; rfl) ?_
      have w15 : HW (sI h 441 k11 (gI h 442 k11)) := HW_sI hw
      refine e_inc (z := l8 + 1) (ls' := [some (.ref 397), z1, z2, z3, z4, z5, z6, some (.int l7), some (.int (l8 + 1)), z9, z10, z11, z12]) (pc' := 420) i182_417 rfl rfl rfl rfl ?_
      refine e_go i182_420 ?_
      exact H
-- FloorTurnModel.machines(I)I
set_option maxHeartbeats 8000000 in
set_option maxRecDepth 100000 in
theorem v183 {L : Nat} {xs : Nat → Int32} {Q : Option Value → Hp → Prop} {h : Hp} {x : Int32} (hw : HW h) 
  (H : (((x_in3 x 0 ((gI h 397 1) - 1)) = true) → (∃ k4 : Nat, x = nI k4 ∧ k4 < 8 ∧ Q (some (.int (gI h 441 k4))) h)) ∧ (¬ ((x_in3 x 0 ((gI h 397 1) - 1)) = true) → (Q (some (.int 0)) h))) : ∃ r h', Sp L xs 183 [.ref 397, .int x] h r h' ∧ Q r h' := by
  refine sp_ex (ls := [some (.ref 397), some (.int x)]) rfl ?_
  refine e_ld (pc' := 1) i183_0 rfl rfl ?_
  refine e_cn (pc' := 2) i183_1 rfl ?_
  refine e_ld (pc' := 3) i183_2 rfl rfl ?_
  refine e_get (w := .int (gI h 397 1)) (pc' := 6) i183_3 rfl (x_isC (by decide) hw.1 sh397) rfl ?_
  refine e_cn (pc' := 7) i183_6 rfl ?_
  refine e_ib (z := (gI h 397 1) - 1) (pc' := 8) i183_7 rfl rfl ?_
  refine e_cI (w := .int (b2i (x_in3 x 0 ((gI h 397 1) - 1)))) (As := [.int x, .int 0, .int ((gI h 397 1) - 1)]) (rest := []) (pc' := 11) i183_8 rfl rfl rfl rfl rfl m123 ?_
  refine e_b0 (pc' := 14) i183_11 rfl (fun c1 => ?_) (fun c1 => ?_)
  · have d2 : ¬ ((x_in3 x 0 ((gI h 397 1) - 1)) = true) := (show ¬ (x_in3 x 0 ((gI h 397 1) - 1)) = true by rw [c1]; decide)
    replace H := H.2 d2
    refine e_cn (pc' := 24) i183_23 rfl ?_
    refine e_rt i183_24 rfl ?_
    exact H
  · have d3 : (x_in3 x 0 ((gI h 397 1) - 1)) = true := c1
    replace H := H.1 d3
    refine e_ld (pc' := 15) i183_14 rfl rfl ?_
    refine e_get (w := .ref 441) (pc' := 18) i183_15 rfl (x_isC (by decide) hw.1 sh397) (x_fvR (by decide +kernel) (hw.2 397 48 441 lk397_48)) ?_
    refine e_ld (pc' := 19) i183_18 rfl rfl ?_
    obtain ⟨k4, e5, g6, H⟩ := H
    refine e_al (n := k4) (w := .int (gI h 441 k4)) (pc' := 20) i183_19 rfl (x_alE (a := 20) (by decide) hw.1 sh441 (by decide) e5 g6 (by decide)) (x_clE e5 g6 (by decide)) rfl ?_
    refine e_go i183_20 ?_
    refine e_rt i183_24 rfl ?_
    exact H
