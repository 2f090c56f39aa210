/-! Conditions of methods (made by wip/whole/vcmake.py). -/
-- FloorTurn$Part.prepare()V
set_option maxHeartbeats 8000000 in
set_option maxRecDepth 100000 in
theorem v30 {L : Nat} {xs : Nat → Int32} {Q : Option Value → Hp → Prop} {h : Hp} {p : Nat} (hw : HW h) (hp : PT p)
  (H : (((gI h p 0) = 5) → ((((gI h p 5) = 0) → (∃ (h41 : Hp), Sp L xs 31 [.ref p] h none h41 ∧ (gR h41 p 4 = none → (Q none h41)) ∧ (∀ q45 : Nat, gR h41 p 4 = some q45 → ((((gI h41 p 11) = 0) → (∃ (h48 : Hp), Sp L xs 33 [.ref p] h41 none h48 ∧ Q none h48)) ∧ (¬ ((gI h41 p 11) = 0) → (∃ (h52 : Hp), Sp L xs 32 [.ref p] h41 none h52 ∧ (((gI h52 p 11) = 0) → (∃ (h58 : Hp), Sp L xs 33 [.ref p] h52 none h58 ∧ Q none h58)) ∧ (¬ ((gI h52 p 11) = 0) → (Q none h52)))))))) ∧ (¬ ((gI h p 5) = 0) → ((gR h p 4 = none → (Q none h)) ∧ (∀ q24 : Nat, gR h p 4 = some q24 → ((((gI h p 11) = 0) → (∃ (h27 : Hp), Sp L xs 33 [.ref p] h none h27 ∧ Q none h27)) ∧ (¬ ((gI h p 11) = 0) → (∃ (h31 : Hp), Sp L xs 32 [.ref p] h none h31 ∧ (((gI h31 p 11) = 0) → (∃ (h37 : Hp), Sp L xs 33 [.ref p] h31 none h37 ∧ Q none h37)) ∧ (¬ ((gI h31 p 11) = 0) → (Q none h31)))))))))) ∧ (¬ ((gI h p 0) = 5) → ((gR h p 4 = none → (Q none h)) ∧ (∀ q4 : Nat, gR h p 4 = some q4 → ((((gI h p 11) = 0) → (∃ (h7 : Hp), Sp L xs 33 [.ref p] h none h7 ∧ Q none h7)) ∧ (¬ ((gI h p 11) = 0) → (∃ (h11 : Hp), Sp L xs 32 [.ref p] h none h11 ∧ (((gI h11 p 11) = 0) → (∃ (h17 : Hp), Sp L xs 33 [.ref p] h11 none h17 ∧ Q none h17)) ∧ (¬ ((gI h11 p 11) = 0) → (Q none h11))))))))) : ∃ r h', Sp L xs 30 [.ref p] h r h' ∧ Q r h' := by
  refine sp_ex (ls := [some (.ref p)]) rfl ?_
  refine e_ld (pc' := 1) i30_0 rfl rfl ?_
  refine e_get (w := .int (gI h p 0)) (pc' := 4) i30_1 rfl (x_isP hp hw.1) rfl ?_
  refine e_cn (pc' := 5) i30_4 rfl ?_
  refine e_ic (pc' := 8) i30_5 rfl (fun c1 => ?_) (fun c1 => ?_)
  · have d2 : ¬ ((gI h p 0) = 5) := (of_decide_eq_true c1)
    replace H := H.2 d2
    refine e_ld (pc' := 20) i30_19 rfl rfl ?_
    cases hr3 : gR h p 4 with
    | none =>
      replace H := H.1 hr3
      refine e_get (w := .null) (pc' := 23) i30_20 rfl (x_isP hp hw.1) (x_fvN (by decide +kernel) hr3) ?_
      refine e_nul (pc' := 48) i30_23 rfl ?_
      refine e_rt i30_48 rfl ?_
      exact H
    | some q4 =>
      replace H := H.2 _ hr3
      refine e_get (w := .ref q4) (pc' := 23) i30_20 rfl (x_isP hp hw.1) (x_fvR (by decide +kernel) hr3) ?_
      refine e_nur (pc' := 26) i30_23 rfl ?_
      refine e_ld (pc' := 27) i30_26 rfl rfl ?_
      refine e_get (w := .int (gI h p 11)) (pc' := 30) i30_27 rfl (x_isP hp hw.1) rfl ?_
      refine e_if (pc' := 33) i30_30 rfl (fun c5 => ?_) (fun c5 => ?_)
      · have d6 : (gI h p 11) = 0 := (of_decide_eq_true c5)
        replace H := H.1 d6
        refine e_ld (pc' := 38) i30_37 rfl rfl ?_
        refine e_get (w := .int (gI h p 11)) (pc' := 41) i30_38 rfl (x_isP hp hw.1) rfl ?_
        refine e_ifF (pc' := 44) i30_41 rfl (decide_eq_false (not_not_intro d6)) ?_
        refine e_ld (pc' := 45) i30_44 rfl rfl ?_
        obtain ⟨h7, s8, H⟩ := H
        have w10q := HW_sp (show x_okm 33 = true by rfl) s8 hw
        have w10 : HW h7 := w10q.1
        refine e_cV (As := [.ref p]) (rest := []) (pc' := 48) i30_45 rfl rfl rfl rfl (by show (Nat.beq (x_kd 33) 0 && x_is p _ (MC 33) 0) = true; rw [show x_kd 33 = 0 by decide +kernel, show MC 33 = 3 by decide +kernel, (x_isP hp hw.1)]; rfl) s8 ?_
        refine e_rt i30_48 rfl ?_
        exact H
      · have d10 : ¬ ((gI h p 11) = 0) := (of_decide_eq_false c5)
        replace H := H.2 d10
        refine e_ld (pc' := 34) i30_33 rfl rfl ?_
        obtain ⟨h11, s12, H⟩ := H
        have w14q := HW_sp (show x_okm 32 = true by rfl) s12 hw
        have w14 : HW h11 := w14q.1
        refine e_cV (As := [.ref p]) (rest := []) (pc' := 37) i30_34 rfl rfl rfl rfl (by show (Nat.beq (x_kd 32) 0 && x_is p _ (MC 32) 0) = true; rw [show x_kd 32 = 0 by decide +kernel, show MC 32 = 3 by decide +kernel, (x_isP hp hw.1)]; rfl) s12 ?_
        refine e_ld (pc' := 38) i30_37 rfl rfl ?_
        refine e_get (w := .int (gI h11 p 11)) (pc' := 41) i30_38 rfl (x_isP hp w14.1) rfl ?_
        refine e_if (pc' := 44) i30_41 rfl (fun c14 => ?_) (fun c14 => ?_)
        · have d15 : ¬ ((gI h11 p 11) = 0) := (of_decide_eq_true c14)
          replace H := H.2 d15
          refine e_rt i30_48 rfl ?_
          exact H
        · have d16 : (gI h11 p 11) = 0 := (Decidable.not_not.mp (of_decide_eq_false c14))
          replace H := H.1 d16
          refine e_ld (pc' := 45) i30_44 rfl rfl ?_
          obtain ⟨h17, s18, H⟩ := H
          have w21q := HW_sp (show x_okm 33 = true by rfl) s18 w14
          have w21 : HW h17 := w21q.1
          refine e_cV (As := [.ref p]) (rest := []) (pc' := 48) i30_45 rfl rfl rfl rfl (by show (Nat.beq (x_kd 33) 0 && x_is p _ (MC 33) 0) = true; rw [show x_kd 33 = 0 by decide +kernel, show MC 33 = 3 by decide +kernel, (x_isP hp w14.1)]; rfl) s18 ?_
          refine e_rt i30_48 rfl ?_
          exact H
  · have d20 : (gI h p 0) = 5 := (Decidable.not_not.mp (of_decide_eq_false c1))
    replace H := H.1 d20
    refine e_ld (pc' := 9) i30_8 rfl rfl ?_
    refine e_get (w := .int (gI h p 5)) (pc' := 12) i30_9 rfl (x_isP hp hw.1) rfl ?_
    refine e_if (pc' := 15) i30_12 rfl (fun c21 => ?_) (fun c21 => ?_)
    · have d22 : ¬ ((gI h p 5) = 0) := (of_decide_eq_true c21)
      replace H := H.2 d22
      refine e_ld (pc' := 20) i30_19 rfl rfl ?_
      cases hr23 : gR h p 4 with
      | none =>
        replace H := H.1 hr23
        refine e_get (w := .null) (pc' := 23) i30_20 rfl (x_isP hp hw.1) (x_fvN (by decide +kernel) hr23) ?_
        refine e_nul (pc' := 48) i30_23 rfl ?_
        refine e_rt i30_48 rfl ?_
        exact H
      | some q24 =>
        replace H := H.2 _ hr23
        refine e_get (w := .ref q24) (pc' := 23) i30_20 rfl (x_isP hp hw.1) (x_fvR (by decide +kernel) hr23) ?_
        refine e_nur (pc' := 26) i30_23 rfl ?_
        refine e_ld (pc' := 27) i30_26 rfl rfl ?_
        refine e_get (w := .int (gI h p 11)) (pc' := 30) i30_27 rfl (x_isP hp hw.1) rfl ?_
        refine e_if (pc' := 33) i30_30 rfl (fun c25 => ?_) (fun c25 => ?_)
        · have d26 : (gI h p 11) = 0 := (of_decide_eq_true c25)
          replace H := H.1 d26
          refine e_ld (pc' := 38) i30_37 rfl rfl ?_
          refine e_get (w := .int (gI h p 11)) (pc' := 41) i30_38 rfl (x_isP hp hw.1) rfl ?_
          refine e_ifF (pc' := 44) i30_41 rfl (decide_eq_false (not_not_intro d26)) ?_
          refine e_ld (pc' := 45) i30_44 rfl rfl ?_
          obtain ⟨h27, s28, H⟩ := H
          have w30q := HW_sp (show x_okm 33 = true by rfl) s28 hw
          have w30 : HW h27 := w30q.1
          refine e_cV (As := [.ref p]) (rest := []) (pc' := 48) i30_45 rfl rfl rfl rfl (by show (Nat.beq (x_kd 33) 0 && x_is p _ (MC 33) 0) = true; rw [show x_kd 33 = 0 by decide +kernel, show MC 33 = 3 by decide +kernel, (x_isP hp hw.1)]; rfl) s28 ?_
          refine e_rt i30_48 rfl ?_
          exact H
        · have d30 : ¬ ((gI h p 11) = 0) := (of_decide_eq_false c25)
          replace H := H.2 d30
          refine e_ld (pc' := 34) i30_33 rfl rfl ?_
          obtain ⟨h31, s32, H⟩ := H
          have w34q := HW_sp (show x_okm 32 = true by rfl) s32 hw
          have w34 : HW h31 := w34q.1
          refine e_cV (As := [.ref p]) (rest := []) (pc' := 37) i30_34 rfl rfl rfl rfl (by show (Nat.beq (x_kd 32) 0 && x_is p _ (MC 32) 0) = true; rw [show x_kd 32 = 0 by decide +kernel, show MC 32 = 3 by decide +kernel, (x_isP hp hw.1)]; rfl) s32 ?_
          refine e_ld (pc' := 38) i30_37 rfl rfl ?_
          refine e_get (w := .int (gI h31 p 11)) (pc' := 41) i30_38 rfl (x_isP hp w34.1) rfl ?_
          refine e_if (pc' := 44) i30_41 rfl (fun c34 => ?_) (fun c34 => ?_)
          · have d35 : ¬ ((gI h31 p 11) = 0) := (of_decide_eq_true c34)
            replace H := H.2 d35
            refine e_rt i30_48 rfl ?_
            exact H
          · have d36 : (gI h31 p 11) = 0 := (Decidable.not_not.mp (of_decide_eq_false c34))
            replace H := H.1 d36
            refine e_ld (pc' := 45) i30_44 rfl rfl ?_
            obtain ⟨h37, s38, H⟩ := H
            have w41q := HW_sp (show x_okm 33 = true by rfl) s38 w34
            have w41 : HW h37 := w41q.1
            refine e_cV (As := [.ref p]) (rest := []) (pc' := 48) i30_45 rfl rfl rfl rfl (by show (Nat.beq (x_kd 33) 0 && x_is p _ (MC 33) 0) = true; rw [show x_kd 33 = 0 by decide +kernel, show MC 33 = 3 by decide +kernel, (x_isP hp w34.1)]; rfl) s38 ?_
            refine e_rt i30_48 rfl ?_
            exact H
    · have d40 : (gI h p 5) = 0 := (Decidable.not_not.mp (of_decide_eq_false c21))
      replace H := H.1 d40
      refine e_ld (pc' := 16) i30_15 rfl rfl ?_
      obtain ⟨h41, s42, H⟩ := H
      have w44q := HW_sp (show x_okm 31 = true by rfl) s42 hw
      have w44 : HW h41 := w44q.1
      refine e_cV (As := [.ref p]) (rest := []) (pc' := 19) i30_16 rfl rfl rfl rfl (by show (Nat.beq (x_kd 31) 0 && x_is p _ (MC 31) 0) = true; rw [show x_kd 31 = 0 by decide +kernel, show MC 31 = 3 by decide +kernel, (x_isP hp hw.1)]; rfl) s42 ?_
      refine e_ld (pc' := 20) i30_19 rfl rfl ?_
      cases hr44 : gR h41 p 4 with
      | none =>
        replace H := H.1 hr44
        refine e_get (w := .null) (pc' := 23) i30_20 rfl (x_isP hp w44.1) (x_fvN (by decide +kernel) hr44) ?_
        refine e_nul (pc' := 48) i30_23 rfl ?_
        refine e_rt i30_48 rfl ?_
        exact H
      | some q45 =>
        replace H := H.2 _ hr44
        refine e_get (w := .ref q45) (pc' := 23) i30_20 rfl (x_isP hp w44.1) (x_fvR (by decide +kernel) hr44) ?_
        refine e_nur (pc' := 26) i30_23 rfl ?_
        refine e_ld (pc' := 27) i30_26 rfl rfl ?_
        refine e_get (w := .int (gI h41 p 11)) (pc' := 30) i30_27 rfl (x_isP hp w44.1) rfl ?_
        refine e_if (pc' := 33) i30_30 rfl (fun c46 => ?_) (fun c46 => ?_)
        · have d47 : (gI h41 p 11) = 0 := (of_decide_eq_true c46)
          replace H := H.1 d47
          refine e_ld (pc' := 38) i30_37 rfl rfl ?_
          refine e_get (w := .int (gI h41 p 11)) (pc' := 41) i30_38 rfl (x_isP hp w44.1) rfl ?_
          refine e_ifF (pc' := 44) i30_41 rfl (decide_eq_false (not_not_intro d47)) ?_
          refine e_ld (pc' := 45) i30_44 rfl rfl ?_
          obtain ⟨h48, s49, H⟩ := H
          have w52q := HW_sp (show x_okm 33 = true by rfl) s49 w44
          have w52 : HW h48 := w52q.1
          refine e_cV (As := [.ref p]) (rest := []) (pc' := 48) i30_45 rfl rfl rfl rfl (by show (Nat.beq (x_kd 33) 0 && x_is p _ (MC 33) 0) = true; rw [show x_kd 33 = 0 by decide +kernel, show MC 33 = 3 by decide +kernel, (x_isP hp w44.1)]; rfl) s49 ?_
          refine e_rt i30_48 rfl ?_
          exact H
        · have d51 : ¬ ((gI h41 p 11) = 0) := (of_decide_eq_false c46)
          replace H := H.2 d51
          refine e_ld (pc' := 34) i30_33 rfl rfl ?_
          obtain ⟨h52, s53, H⟩ := H
          have w56q := HW_sp (show x_okm 32 = true by rfl) s53 w44
          have w56 : HW h52 := w56q.1
          refine e_cV (As := [.ref p]) (rest := []) (pc' := 37) i30_34 rfl rfl rfl rfl (by show (Nat.beq (x_kd 32) 0 && x_is p _ (MC 32) 0) = true; rw [show x_kd 32 = 0 by decide +kernel, show MC 32 = 3 by decide +kernel, (x_isP hp w44.1)]; rfl) s53 ?_
          refine e_ld (pc' := 38) i30_37 rfl rfl ?_
          refine e_get (w := .int (gI h52 p 11)) (pc' := 41) i30_38 rfl (x_isP hp w56.1) rfl ?_
          refine e_if (pc' := 44) i30_41 rfl (fun c55 => ?_) (fun c55 => ?_)
          · have d56 : ¬ ((gI h52 p 11) = 0) := (of_decide_eq_true c55)
            replace H := H.2 d56
            refine e_rt i30_48 rfl ?_
            exact H
          · have d57 : (gI h52 p 11) = 0 := (Decidable.not_not.mp (of_decide_eq_false c55))
            replace H := H.1 d57
            refine e_ld (pc' := 45) i30_44 rfl rfl ?_
            obtain ⟨h58, s59, H⟩ := H
            have w63q := HW_sp (show x_okm 33 = true by rfl) s59 w56
            have w63 : HW h58 := w63q.1
            refine e_cV (As := [.ref p]) (rest := []) (pc' := 48) i30_45 rfl rfl rfl rfl (by show (Nat.beq (x_kd 33) 0 && x_is p _ (MC 33) 0) = true; rw [show x_kd 33 = 0 by decide +kernel, show MC 33 = 3 by decide +kernel, (x_isP hp w56.1)]; rfl) s59 ?_
            refine e_rt i30_48 rfl ?_
            exact H
-- FloorTurn$Part.runClock()V
set_option maxHeartbeats 8000000 in
set_option maxRecDepth 100000 in
theorem v31 {L : Nat} {xs : Nat → Int32} {Q : Option Value → Hp → Prop} {h : Hp} {p : Nat} (hw : HW h) (hp : PT p)
  (H : (((gI (sI h p 6 ((gI h p 6) + 1)) p 6) < (gI h p 3)) → (Q none (sI h p 6 ((gI h p 6) + 1)))) ∧ (¬ ((gI (sI h p 6 ((gI h p 6) + 1)) p 6) < (gI h p 3)) → (Q none (sI (sI (sI h p 6 ((gI h p 6) + 1)) p 5 (gI h p 2)) p 6 0)))) : ∃ r h', Sp L xs 31 [.ref p] h r h' ∧ Q r h' := by
  refine sp_ex (ls := [some (.ref p)]) rfl ?_
  refine e_ld (pc' := 1) i31_0 rfl rfl ?_
  refine e_stk (pc' := 2) i31_1 rfl rfl ?_
  refine e_get (w := .int (gI h p 6)) (pc' := 5) i31_2 rfl (x_isP hp hw.1) rfl ?_
  refine e_cn (pc' := 6) i31_5 rfl ?_
  refine e_ib (z := (gI h p 6) + 1) (pc' := 7) i31_6 rfl rfl ?_
  refine e_put (h' := sI h p 6 ((gI h p 6) + 1)) (pc' := 10) i31_7 rfl (x_isP hp hw.1) rfl ?_
  have w2 : HW (sI h p 6 ((gI h p 6) + 1)) := HW_sI hw
  refine e_ld (pc' := 11) i31_10 rfl rfl ?_
  refine e_get (w := .int (gI (sI h p 6 ((gI h p 6) + 1)) p 6)) (pc' := 14) i31_11 rfl (x_isP hp w2.1) rfl ?_
  refine e_ld (pc' := 15) i31_14 rfl rfl ?_
  refine e_get (w := .int (gI h p 3)) (pc' := 18) i31_15 rfl (x_isP hp w2.1) (congrArg Value.int (gI_ksI (by decide))) ?_
  refine e_ic (pc' := 21) i31_18 rfl (fun c2 => ?_) (fun c2 => ?_)
  · have d3 : (gI (sI h p 6 ((gI h p 6) + 1)) p 6) < (gI h p 3) := (of_decide_eq_true c2)
    replace H := H.1 d3
    refine e_rt i31_34 rfl ?_
    exact H
  · have d4 : ¬ ((gI (sI h p 6 ((gI h p 6) + 1)) p 6) < (gI h p 3)) := (of_decide_eq_false c2)
    replace H := H.2 d4
    refine e_ld (pc' := 22) i31_21 rfl rfl ?_
    refine e_ld (pc' := 23) i31_22 rfl rfl ?_
    refine e_get (w := .int (gI h p 2)) (pc' := 26) i31_23 rfl (x_isP hp w2.1) (congrArg Value.int (gI_ksI (by decide))) ?_
    refine e_put (h' := sI (sI h p 6 ((gI h p 6) + 1)) p 5 (gI h p 2)) (pc' := 29) i31_26 rfl (x_isP hp w2.1) rfl ?_
    have w7 : HW (sI (sI h p 6 ((gI h p 6) + 1)) p 5 (gI h p 2)) := HW_sI w2
    refine e_ld (pc' := 30) i31_29 rfl rfl ?_
    refine e_cn (pc' := 31) i31_30 rfl ?_
    refine e_put (h' := sI (sI (sI h p 6 ((gI h p 6) + 1)) p 5 (gI h p 2)) p 6 0) (pc' := 34) i31_31 rfl (x_isP hp w7.1) rfl ?_
    have w9 : HW (sI (sI (sI h p 6 ((gI h p 6) + 1)) p 5 (gI h p 2)) p 6 0) := HW_sI w7
    refine e_rt i31_34 rfl ?_
    exact H
-- FloorTurn$Part.runWork()V
set_option maxHeartbeats 8000000 in
set_option maxRecDepth 100000 in
theorem v32 {L : Nat} {xs : Nat → Int32} {Q : Option Value → Hp → Prop} {h : Hp} {p : Nat} (hw : HW h) (hp : PT p)
  (H : (gR h p 4 = none → (False)) ∧ (∀ q3 : Nat, gR h p 4 = some q3 → ((RQ q3 (sI h p 10 ((gI h p 10) + 1)).1) ∧ (((gI (sI h p 10 ((gI h p 10) + 1)) p 10) < (gI (sI h p 10 ((gI h p 10) + 1)) q3 2)) → (Q none (sI h p 10 ((gI h p 10) + 1)))) ∧ (¬ ((gI (sI h p 10 ((gI h p 10) + 1)) p 10) < (gI (sI h p 10 ((gI h p 10) + 1)) q3 2)) → (Q none (sI (sI (sI (sI (sI h p 10 ((gI h p 10) + 1)) p 9 ((gI h p 9) + (gI (sI h p 10 ((gI h p 10) + 1)) q3 1))) p 11 0) p 10 0) p 16 ((gI h p 16) + 1))))))) : ∃ r h', Sp L xs 32 [.ref p] h r h' ∧ Q r h' := by
  refine sp_ex (ls := [some (.ref p)]) rfl ?_
  refine e_ld (pc' := 1) i32_0 rfl rfl ?_
  refine e_stk (pc' := 2) i32_1 rfl rfl ?_
  refine e_get (w := .int (gI h p 10)) (pc' := 5) i32_2 rfl (x_isP hp hw.1) rfl ?_
  refine e_cn (pc' := 6) i32_5 rfl ?_
  refine e_ib (z := (gI h p 10) + 1) (pc' := 7) i32_6 rfl rfl ?_
  refine e_put (h' := sI h p 10 ((gI h p 10) + 1)) (pc' := 10) i32_7 rfl (x_isP hp hw.1) rfl ?_
  have w2 : HW (sI h p 10 ((gI h p 10) + 1)) := HW_sI hw
  refine e_ld (pc' := 11) i32_10 rfl rfl ?_
  refine e_get (w := .int (gI (sI h p 10 ((gI h p 10) + 1)) p 10)) (pc' := 14) i32_11 rfl (x_isP hp w2.1) rfl ?_
  refine e_ld (pc' := 15) i32_14 rfl rfl ?_
  cases hr2 : gR h p 4 with
  | none =>
    replace H := H.1 hr2
    refine e_get (w := .null) (pc' := 18) i32_15 rfl (x_isP hp w2.1) (x_fvN (by decide +kernel) (Eq.trans gR_psI hr2)) ?_
    exact H.elim
  | some q3 =>
    replace H := H.2 _ hr2
    refine e_get (w := .ref q3) (pc' := 18) i32_15 rfl (x_isP hp w2.1) (x_fvR (by decide +kernel) (Eq.trans gR_psI hr2)) ?_
    obtain ⟨g4, H⟩ := H
    refine e_get (w := .int (gI (sI h p 10 ((gI h p 10) + 1)) q3 2)) (pc' := 21) i32_18 rfl (x_isV g4.1 g4.2) rfl ?_
    refine e_ic (pc' := 24) i32_21 rfl (fun c5 => ?_) (fun c5 => ?_)
    · have d6 : (gI (sI h p 10 ((gI h p 10) + 1)) p 10) < (gI (sI h p 10 ((gI h p 10) + 1)) q3 2) := (of_decide_eq_true c5)
      replace H := H.1 d6
      refine e_rt i32_60 rfl ?_
      exact H
    · have d7 : ¬ ((gI (sI h p 10 ((gI h p 10) + 1)) p 10) < (gI (sI h p 10 ((gI h p 10) + 1)) q3 2)) := (of_decide_eq_false c5)
      replace H := H.2 d7
      refine e_ld (pc' := 25) i32_24 rfl rfl ?_
      refine e_stk (pc' := 26) i32_25 rfl rfl ?_
      refine e_get (w := .int (gI h p 9)) (pc' := 29) i32_26 rfl (x_isP hp w2.1) (congrArg Value.int (gI_ksI (by decide))) ?_
      refine e_ld (pc' := 30) i32_29 rfl rfl ?_
      refine e_get (w := .ref q3) (pc' := 33) i32_30 rfl (x_isP hp w2.1) (x_fvR (by decide +kernel) (Eq.trans gR_psI hr2)) ?_
      refine e_get (w := .int (gI (sI h p 10 ((gI h p 10) + 1)) q3 1)) (pc' := 36) i32_33 rfl (x_isV g4.1 g4.2) rfl ?_
      refine e_ib (z := (gI h p 9) + (gI (sI h p 10 ((gI h p 10) + 1)) q3 1)) (pc' := 37) i32_36 rfl rfl ?_
      refine e_put (h' := sI (sI h p 10 ((gI h p 10) + 1)) p 9 ((gI h p 9) + (gI (sI h p 10 ((gI h p 10) + 1)) q3 1))) (pc' := 40) i32_37 rfl (x_isP hp w2.1) rfl ?_
      have w10 : HW (sI (sI h p 10 ((gI h p 10) + 1)) p 9 ((gI h p 9) + (gI (sI h p 10 ((gI h p 10) + 1)) q3 1))) := HW_sI w2
      refine e_ld (pc' := 41) i32_40 rfl rfl ?_
      refine e_cn (pc' := 42) i32_41 rfl ?_
      refine e_put (h' := sI (sI (sI h p 10 ((gI h p 10) + 1)) p 9 ((gI h p 9) + (gI (sI h p 10 ((gI h p 10) + 1)) q3 1))) p 11 0) (pc' := 45) i32_42 rfl (x_isP hp w10.1) rfl ?_
      have w12 : HW (sI (sI (sI h p 10 ((gI h p 10) + 1)) p 9 ((gI h p 9) + (gI (sI h p 10 ((gI h p 10) + 1)) q3 1))) p 11 0) := HW_sI w10
      refine e_ld (pc' := 46) i32_45 rfl rfl ?_
      refine e_cn (pc' := 47) i32_46 rfl ?_
      refine e_put (h' := sI (sI (sI (sI h p 10 ((gI h p 10) + 1)) p 9 ((gI h p 9) + (gI (sI h p 10 ((gI h p 10) + 1)) q3 1))) p 11 0) p 10 0) (pc' := 50) i32_47 rfl (x_isP hp w12.1) rfl ?_
      have w14 : HW (sI (sI (sI (sI h p 10 ((gI h p 10) + 1)) p 9 ((gI h p 9) + (gI (sI h p 10 ((gI h p 10) + 1)) q3 1))) p 11 0) p 10 0) := HW_sI w12
      refine e_ld (pc' := 51) i32_50 rfl rfl ?_
      refine e_stk (pc' := 52) i32_51 rfl rfl ?_
      refine e_get (w := .int (gI h p 16)) (pc' := 55) i32_52 rfl (x_isP hp w14.1) (congrArg Value.int (Eq.trans (gI_ksI (by decide)) (Eq.trans (gI_ksI (by decide)) (Eq.trans (gI_ksI (by decide)) (gI_ksI (by decide)))))) ?_
      refine e_cn (pc' := 56) i32_55 rfl ?_
      refine e_ib (z := (gI h p 16) + 1) (pc' := 57) i32_56 rfl rfl ?_
      refine e_put (h' := sI (sI (sI (sI (sI h p 10 ((gI h p 10) + 1)) p 9 ((gI h p 9) + (gI (sI h p 10 ((gI h p 10) + 1)) q3 1))) p 11 0) p 10 0) p 16 ((gI h p 16) + 1)) (pc' := 60) i32_57 rfl (x_isP hp w14.1) rfl ?_
      have w16 : HW (sI (sI (sI (sI (sI h p 10 ((gI h p 10) + 1)) p 9 ((gI h p 9) + (gI (sI h p 10 ((gI h p 10) + 1)) q3 1))) p 11 0) p 10 0) p 16 ((gI h p 16) + 1)) := HW_sI w14
      refine e_rt i32_60 rfl ?_
      exact H
-- FloorTurn$Part.beginWork()V
set_option maxHeartbeats 8000000 in
set_option maxRecDepth 100000 in
theorem v33 {L : Nat} {xs : Nat → Int32} {Q : Option Value → Hp → Prop} {h : Hp} {p : Nat} (hw : HW h) (hp : PT p)
  (H : (gR h p 4 = none → (False)) ∧ (∀ q2 : Nat, gR h p 4 = some q2 → ((RQ q2 h.1) ∧ (((gI h q2 1) < (gI h p 9)) → (Q none h)) ∧ (¬ ((gI h q2 1) < (gI h p 9)) → ((((gI h p 7) < (gI h q2 5)) → (Q none h)) ∧ (¬ ((gI h p 7) < (gI h q2 5)) → ((((gI h p 8) < (gI h q2 7)) → (Q none h)) ∧ (¬ ((gI h p 8) < (gI h q2 7)) → (Q none (sI (sI (sI (sI h p 7 ((gI h p 7) - (gI h q2 5))) p 8 ((gI h p 8) - (gI (sI h p 7 ((gI h p 7) - (gI h q2 5))) q2 7))) p 11 1) p 10 0)))))))))) : ∃ r h', Sp L xs 33 [.ref p] h r h' ∧ Q r h' := by
  refine sp_ex (ls := [some (.ref p)]) rfl ?_
  refine e_ld (pc' := 1) i33_0 rfl rfl ?_
  refine e_get (w := .int (gI h p 9)) (pc' := 4) i33_1 rfl (x_isP hp hw.1) rfl ?_
  refine e_ld (pc' := 5) i33_4 rfl rfl ?_
  cases hr1 : gR h p 4 with
  | none =>
    replace H := H.1 hr1
    refine e_get (w := .null) (pc' := 8) i33_5 rfl (x_isP hp hw.1) (x_fvN (by decide +kernel) hr1) ?_
    exact H.elim
  | some q2 =>
    replace H := H.2 _ hr1
    refine e_get (w := .ref q2) (pc' := 8) i33_5 rfl (x_isP hp hw.1) (x_fvR (by decide +kernel) hr1) ?_
    obtain ⟨g3, H⟩ := H
    refine e_get (w := .int (gI h q2 1)) (pc' := 11) i33_8 rfl (x_isV g3.1 g3.2) rfl ?_
    refine e_ic (pc' := 14) i33_11 rfl (fun c4 => ?_) (fun c4 => ?_)
    · have d5 : (gI h q2 1) < (gI h p 9) := (of_decide_eq_true c4)
      replace H := H.1 d5
      refine e_rt i33_84 rfl ?_
      exact H
    · have d6 : ¬ ((gI h q2 1) < (gI h p 9)) := (of_decide_eq_false c4)
      replace H := H.2 d6
      refine e_ld (pc' := 15) i33_14 rfl rfl ?_
      refine e_get (w := .int (gI h p 7)) (pc' := 18) i33_15 rfl (x_isP hp hw.1) rfl ?_
      refine e_ld (pc' := 19) i33_18 rfl rfl ?_
      refine e_get (w := .ref q2) (pc' := 22) i33_19 rfl (x_isP hp hw.1) (x_fvR (by decide +kernel) hr1) ?_
      refine e_get (w := .int (gI h q2 5)) (pc' := 25) i33_22 rfl (x_isV g3.1 g3.2) rfl ?_
      refine e_ic (pc' := 28) i33_25 rfl (fun c7 => ?_) (fun c7 => ?_)
      · have d8 : (gI h p 7) < (gI h q2 5) := (of_decide_eq_true c7)
        replace H := H.1 d8
        refine e_rt i33_84 rfl ?_
        exact H
      · have d9 : ¬ ((gI h p 7) < (gI h q2 5)) := (of_decide_eq_false c7)
        replace H := H.2 d9
        refine e_ld (pc' := 29) i33_28 rfl rfl ?_
        refine e_get (w := .int (gI h p 8)) (pc' := 32) i33_29 rfl (x_isP hp hw.1) rfl ?_
        refine e_ld (pc' := 33) i33_32 rfl rfl ?_
        refine e_get (w := .ref q2) (pc' := 36) i33_33 rfl (x_isP hp hw.1) (x_fvR (by decide +kernel) hr1) ?_
        refine e_get (w := .int (gI h q2 7)) (pc' := 39) i33_36 rfl (x_isV g3.1 g3.2) rfl ?_
        refine e_ic (pc' := 42) i33_39 rfl (fun c10 => ?_) (fun c10 => ?_)
        · have d11 : (gI h p 8) < (gI h q2 7) := (of_decide_eq_true c10)
          replace H := H.1 d11
          refine e_rt i33_84 rfl ?_
          exact H
        · have d12 : ¬ ((gI h p 8) < (gI h q2 7)) := (of_decide_eq_false c10)
          replace H := H.2 d12
          refine e_ld (pc' := 43) i33_42 rfl rfl ?_
          refine e_stk (pc' := 44) i33_43 rfl rfl ?_
          refine e_get (w := .int (gI h p 7)) (pc' := 47) i33_44 rfl (x_isP hp hw.1) rfl ?_
          refine e_ld (pc' := 48) i33_47 rfl rfl ?_
          refine e_get (w := .ref q2) (pc' := 51) i33_48 rfl (x_isP hp hw.1) (x_fvR (by decide +kernel) hr1) ?_
          refine e_get (w := .int (gI h q2 5)) (pc' := 54) i33_51 rfl (x_isV g3.1 g3.2) rfl ?_
          refine e_ib (z := (gI h p 7) - (gI h q2 5)) (pc' := 55) i33_54 rfl rfl ?_
          refine e_put (h' := sI h p 7 ((gI h p 7) - (gI h q2 5))) (pc' := 58) i33_55 rfl (x_isP hp hw.1) rfl ?_
          have w14 : HW (sI h p 7 ((gI h p 7) - (gI h q2 5))) := HW_sI hw
          refine e_ld (pc' := 59) i33_58 rfl rfl ?_
          refine e_stk (pc' := 60) i33_59 rfl rfl ?_
          refine e_get (w := .int (gI h p 8)) (pc' := 63) i33_60 rfl (x_isP hp w14.1) (congrArg Value.int (gI_ksI (by decide))) ?_
          refine e_ld (pc' := 64) i33_63 rfl rfl ?_
          refine e_get (w := .ref q2) (pc' := 67) i33_64 rfl (x_isP hp w14.1) (x_fvR (by decide +kernel) (Eq.trans gR_psI hr1)) ?_
          refine e_get (w := .int (gI (sI h p 7 ((gI h p 7) - (gI h q2 5))) q2 7)) (pc' := 70) i33_67 rfl (x_isV g3.1 g3.2) rfl ?_
          refine e_ib (z := (gI h p 8) - (gI (sI h p 7 ((gI h p 7) - (gI h q2 5))) q2 7)) (pc' := 71) i33_70 rfl rfl ?_
          refine e_put (h' := sI (sI h p 7 ((gI h p 7) - (gI h q2 5))) p 8 ((gI h p 8) - (gI (sI h p 7 ((gI h p 7) - (gI h q2 5))) q2 7))) (pc' := 74) i33_71 rfl (x_isP hp w14.1) rfl ?_
          have w16 : HW (sI (sI h p 7 ((gI h p 7) - (gI h q2 5))) p 8 ((gI h p 8) - (gI (sI h p 7 ((gI h p 7) - (gI h q2 5))) q2 7))) := HW_sI w14
          refine e_ld (pc' := 75) i33_74 rfl rfl ?_
          refine e_cn (pc' := 76) i33_75 rfl ?_
          refine e_put (h' := sI (sI (sI h p 7 ((gI h p 7) - (gI h q2 5))) p 8 ((gI h p 8) - (gI (sI h p 7 ((gI h p 7) - (gI h q2 5))) q2 7))) p 11 1) (pc' := 79) i33_76 rfl (x_isP hp w16.1) rfl ?_
          have w18 : HW (sI (sI (sI h p 7 ((gI h p 7) - (gI h q2 5))) p 8 ((gI h p 8) - (gI (sI h p 7 ((gI h p 7) - (gI h q2 5))) q2 7))) p 11 1) := HW_sI w16
          refine e_ld (pc' := 80) i33_79 rfl rfl ?_
          refine e_cn (pc' := 81) i33_80 rfl ?_
          refine e_put (h' := sI (sI (sI (sI h p 7 ((gI h p 7) - (gI h q2 5))) p 8 ((gI h p 8) - (gI (sI h p 7 ((gI h p 7) - (gI h q2 5))) q2 7))) p 11 1) p 10 0) (pc' := 84) i33_81 rfl (x_isP hp w18.1) rfl ?_
          have w20 : HW (sI (sI (sI (sI h p 7 ((gI h p 7) - (gI h q2 5))) p 8 ((gI h p 8) - (gI (sI h p 7 ((gI h p 7) - (gI h q2 5))) q2 7))) p 11 1) p 10 0) := HW_sI w18
          refine e_rt i33_84 rfl ?_
          exact H
-- FloorTurn$Part.offered()I
set_option maxHeartbeats 8000000 in
set_option maxRecDepth 100000 in
theorem v34 {L : Nat} {xs : Nat → Int32} {Q : Option Value → Hp → Prop} {h : Hp} {p : Nat} (hw : HW h) (hp : PT p)
  (H : (gR h p 4 = none → (Q (some (.int (gI h p 5))) h)) ∧ (∀ q2 : Nat, gR h p 4 = some q2 → ((((gI h p 9) ≤ 0) → (Q (some (.int 0)) h)) ∧ (¬ ((gI h p 9) ≤ 0) → ((RQ q2 h.1) ∧ Q (some (.int (gI h q2 0))) h))))) : ∃ r h', Sp L xs 34 [.ref p] h r h' ∧ Q r h' := by
  refine sp_ex (ls := [some (.ref p)]) rfl ?_
  refine e_ld (pc' := 1) i34_0 rfl rfl ?_
  cases hr1 : gR h p 4 with
  | none =>
    replace H := H.1 hr1
    refine e_get (w := .null) (pc' := 4) i34_1 rfl (x_isP hp hw.1) (x_fvN (by decide +kernel) hr1) ?_
    refine e_nul (pc' := 26) i34_4 rfl ?_
    refine e_ld (pc' := 27) i34_26 rfl rfl ?_
    refine e_get (w := .int (gI h p 5)) (pc' := 30) i34_27 rfl (x_isP hp hw.1) rfl ?_
    refine e_rt i34_30 rfl ?_
    exact H
  | some q2 =>
    replace H := H.2 _ hr1
    refine e_get (w := .ref q2) (pc' := 4) i34_1 rfl (x_isP hp hw.1) (x_fvR (by decide +kernel) hr1) ?_
    refine e_nur (pc' := 7) i34_4 rfl ?_
    refine e_ld (pc' := 8) i34_7 rfl rfl ?_
    refine e_get (w := .int (gI h p 9)) (pc' := 11) i34_8 rfl (x_isP hp hw.1) rfl ?_
    refine e_if (pc' := 14) i34_11 rfl (fun c3 => ?_) (fun c3 => ?_)
    · have d4 : (gI h p 9) ≤ 0 := (of_decide_eq_true c3)
      replace H := H.1 d4
      refine e_cn (pc' := 25) i34_24 rfl ?_
      refine e_rt i34_25 rfl ?_
      exact H
    · have d5 : ¬ ((gI h p 9) ≤ 0) := (of_decide_eq_false c3)
      replace H := H.2 d5
      refine e_ld (pc' := 15) i34_14 rfl rfl ?_
      refine e_get (w := .ref q2) (pc' := 18) i34_15 rfl (x_isP hp hw.1) (x_fvR (by decide +kernel) hr1) ?_
      obtain ⟨g6, H⟩ := H
      refine e_get (w := .int (gI h q2 0)) (pc' := 21) i34_18 rfl (x_isV g6.1 g6.2) rfl ?_
      refine e_go i34_21 ?_
      refine e_rt i34_25 rfl ?_
      exact H
-- FloorTurn$Part.takes(II)Z
set_option maxHeartbeats 8000000 in
set_option maxRecDepth 100000 in
theorem v35 {L : Nat} {xs : Nat → Int32} {Q : Option Value → Hp → Prop} {h : Hp} {p : Nat} {x : Int32} {y : Int32} (hw : HW h) (hp : PT p)
  (H : (((gI h p 0) = 1) → ((((gI h p 5) = 0) → (∃ (r6 : Int32), Sp L xs 29 [.ref p, .int y] h (some (.int r6)) h ∧ Q (some (.int (b2i (if r6 = 0 then (true) else (false))))) h)) ∧ (¬ ((gI h p 5) = 0) → (Q (some (.int 0)) h)))) ∧ (¬ ((gI h p 0) = 1) → ((((gI h p 0) = 2) → ((((gI h p 5) = 0) → (∃ (r16 : Int32), Sp L xs 29 [.ref p, .int y] h (some (.int r16)) h ∧ Q (some (.int (b2i (if r16 = 0 then (true) else (false))))) h)) ∧ (¬ ((gI h p 5) = 0) → (Q (some (.int 0)) h)))) ∧ (¬ ((gI h p 0) = 2) → ((((gI h p 0) = 3) → (Q (some (.int 0)) h)) ∧ (¬ ((gI h p 0) = 3) → ((((gI h p 0) = 4) → ((((gI h p 5) = 0) → (∃ (r27 : Int32), Sp L xs 29 [.ref p, .int y] h (some (.int r27)) h ∧ Q (some (.int (b2i (if r27 = 0 then (true) else (false))))) h)) ∧ (¬ ((gI h p 5) = 0) → (Q (some (.int 0)) h)))) ∧ (¬ ((gI h p 0) = 4) → ((((gI h p 0) = 5) → (Q (some (.int 0)) h)) ∧ (¬ ((gI h p 0) = 5) → ((((gI h p 0) = 6) → (∃ (r35 : Int32), Sp L xs 29 [.ref p, .int y] h (some (.int r35)) h ∧ ((r35 = 0) → (∃ (r40 : Int32), Sp L xs 36 [.ref p, .int x] h (some (.int r40)) h ∧ Q (some (.int (b2i (if r40 = 0 then (false) else (true))))) h)) ∧ (¬ (r35 = 0) → (Q (some (.int 0)) h)))) ∧ (¬ ((gI h p 0) = 6) → ((((gI h p 0) = 7) → (Q (some (.int 1)) h)) ∧ (¬ ((gI h p 0) = 7) → (Q (some (.int 0)) h))))))))))))))) : ∃ r h', Sp L xs 35 [.ref p, .int x, .int y] h r h' ∧ Q r h' := by
  refine sp_ex (ls := [some (.ref p), some (.int x), some (.int y)]) rfl ?_
  refine e_ld (pc' := 1) i35_0 rfl rfl ?_
  refine e_get (w := .int (gI h p 0)) (pc' := 4) i35_1 rfl (x_isP hp hw.1) rfl ?_
  by_cases c1 : (gI h p 0) = 1
  · replace H := H.1 c1
    refine e_tab (pc' := 48) i35_4 (by rw [c1]; rfl) ?_
    refine e_ld (pc' := 49) i35_48 rfl rfl ?_
    refine e_get (w := .int (gI h p 5)) (pc' := 52) i35_49 rfl (x_isP hp hw.1) rfl ?_
    refine e_if (pc' := 55) i35_52 rfl (fun c2 => ?_) (fun c2 => ?_)
    · have d3 : ¬ ((gI h p 5) = 0) := (of_decide_eq_true c2)
      replace H := H.2 d3
      refine e_cn (pc' := 68) i35_67 rfl ?_
      refine e_rt i35_68 rfl ?_
      exact H
    · have d4 : (gI h p 5) = 0 := (Decidable.not_not.mp (of_decide_eq_false c2))
      replace H := H.1 d4
      refine e_ld (pc' := 56) i35_55 rfl rfl ?_
      refine e_ld (pc' := 57) i35_56 rfl rfl ?_
      obtain ⟨r6, s5, H⟩ := H
      refine e_cI (w := .int r6) (As := [.ref p, .int y]) (rest := []) (pc' := 60) i35_57 rfl rfl rfl rfl (by show (Nat.beq (x_kd 29) 0 && x_is p _ (MC 29) 0) = true; rw [show x_kd 29 = 0 by decide +kernel, show MC 29 = 3 by decide +kernel, (x_isP hp hw.1)]; rfl) s5 ?_
      refine e_reg (pc' := 68) (ls' := [some (.ref p), some (.int x), some (.int y)]) (st' := [.int (b2i (if r6 = 0 then (true) else (false)))]) (fun kj7 => ?_) ?_
      · skip
        refine e_if (pc' := 63) i35_60 rfl (fun c8 => ?_) (fun c8 => ?_)
        · have d9 : ¬ (r6 = 0) := (of_decide_eq_true c8)
          refine e_cn (pc' := 68) i35_67 rfl ?_
          exact (by simp only [if_neg d9] at kj7 ⊢; exact kj7)
        · have d10 : r6 = 0 := (Decidable.not_not.mp (of_decide_eq_false c8))
          refine e_cn (pc' := 64) i35_63 rfl ?_
          refine e_go i35_64 ?_
          exact (by simp only [if_pos d10] at kj7 ⊢; exact kj7)
      refine e_rt (r := some (.int (b2i (if r6 = 0 then (true) else (false))))) i35_68 (by simp only [x_rt, show MR 35 = some .boolean by decide +kernel, b2i_01, cond_true]) ?_
      exact H
  · replace H := H.2 c1
    by_cases c11 : (gI h p 0) = 2
    · replace H := H.1 c11
      refine e_tab (pc' := 48) i35_4 (by rw [c11]; rfl) ?_
      refine e_ld (pc' := 49) i35_48 rfl rfl ?_
      refine e_get (w := .int (gI h p 5)) (pc' := 52) i35_49 rfl (x_isP hp hw.1) rfl ?_
      refine e_if (pc' := 55) i35_52 rfl (fun c12 => ?_) (fun c12 => ?_)
      · have d13 : ¬ ((gI h p 5) = 0) := (of_decide_eq_true c12)
        replace H := H.2 d13
        refine e_cn (pc' := 68) i35_67 rfl ?_
        refine e_rt i35_68 rfl ?_
        exact H
      · have d14 : (gI h p 5) = 0 := (Decidable.not_not.mp (of_decide_eq_false c12))
        replace H := H.1 d14
        refine e_ld (pc' := 56) i35_55 rfl rfl ?_
        refine e_ld (pc' := 57) i35_56 rfl rfl ?_
        obtain ⟨r16, s15, H⟩ := H
        refine e_cI (w := .int r16) (As := [.ref p, .int y]) (rest := []) (pc' := 60) i35_57 rfl rfl rfl rfl (by show (Nat.beq (x_kd 29) 0 && x_is p _ (MC 29) 0) = true; rw [show x_kd 29 = 0 by decide +kernel, show MC 29 = 3 by decide +kernel, (x_isP hp hw.1)]; rfl) s15 ?_
        refine e_reg (pc' := 68) (ls' := [some (.ref p), some (.int x), some (.int y)]) (st' := [.int (b2i (if r16 = 0 then (true) else (false)))]) (fun kj17 => ?_) ?_
        · skip
          refine e_if (pc' := 63) i35_60 rfl (fun c18 => ?_) (fun c18 => ?_)
          · have d19 : ¬ (r16 = 0) := (of_decide_eq_true c18)
            refine e_cn (pc' := 68) i35_67 rfl ?_
            exact (by simp only [if_neg d19] at kj17 ⊢; exact kj17)
          · have d20 : r16 = 0 := (Decidable.not_not.mp (of_decide_eq_false c18))
            refine e_cn (pc' := 64) i35_63 rfl ?_
            refine e_go i35_64 ?_
            exact (by simp only [if_pos d20] at kj17 ⊢; exact kj17)
        refine e_rt (r := some (.int (b2i (if r16 = 0 then (true) else (false))))) i35_68 (by simp only [x_rt, show MR 35 = some .boolean by decide +kernel, b2i_01, cond_true]) ?_
        exact H
    · replace H := H.2 c11
      by_cases c21 : (gI h p 0) = 3
      · replace H := H.1 c21
        refine e_tab (pc' := 93) i35_4 (by rw [c21]; rfl) ?_
        refine e_cn (pc' := 94) i35_93 rfl ?_
        refine e_rt i35_94 rfl ?_
        exact H
      · replace H := H.2 c21
        by_cases c22 : (gI h p 0) = 4
        · replace H := H.1 c22
          refine e_tab (pc' := 48) i35_4 (by rw [c22]; rfl) ?_
          refine e_ld (pc' := 49) i35_48 rfl rfl ?_
          refine e_get (w := .int (gI h p 5)) (pc' := 52) i35_49 rfl (x_isP hp hw.1) rfl ?_
          refine e_if (pc' := 55) i35_52 rfl (fun c23 => ?_) (fun c23 => ?_)
          · have d24 : ¬ ((gI h p 5) = 0) := (of_decide_eq_true c23)
            replace H := H.2 d24
            refine e_cn (pc' := 68) i35_67 rfl ?_
            refine e_rt i35_68 rfl ?_
            exact H
          · have d25 : (gI h p 5) = 0 := (Decidable.not_not.mp (of_decide_eq_false c23))
            replace H := H.1 d25
            refine e_ld (pc' := 56) i35_55 rfl rfl ?_
            refine e_ld (pc' := 57) i35_56 rfl rfl ?_
            obtain ⟨r27, s26, H⟩ := H
            refine e_cI (w := .int r27) (As := [.ref p, .int y]) (rest := []) (pc' := 60) i35_57 rfl rfl rfl rfl (by show (Nat.beq (x_kd 29) 0 && x_is p _ (MC 29) 0) = true; rw [show x_kd 29 = 0 by decide +kernel, show MC 29 = 3 by decide +kernel, (x_isP hp hw.1)]; rfl) s26 ?_
            refine e_reg (pc' := 68) (ls' := [some (.ref p), some (.int x), some (.int y)]) (st' := [.int (b2i (if r27 = 0 then (true) else (false)))]) (fun kj28 => ?_) ?_
            · skip
              refine e_if (pc' := 63) i35_60 rfl (fun c29 => ?_) (fun c29 => ?_)
              · have d30 : ¬ (r27 = 0) := (of_decide_eq_true c29)
                refine e_cn (pc' := 68) i35_67 rfl ?_
                exact (by simp only [if_neg d30] at kj28 ⊢; exact kj28)
              · have d31 : r27 = 0 := (Decidable.not_not.mp (of_decide_eq_false c29))
                refine e_cn (pc' := 64) i35_63 rfl ?_
                refine e_go i35_64 ?_
                exact (by simp only [if_pos d31] at kj28 ⊢; exact kj28)
            refine e_rt (r := some (.int (b2i (if r27 = 0 then (true) else (false))))) i35_68 (by simp only [x_rt, show MR 35 = some .boolean by decide +kernel, b2i_01, cond_true]) ?_
            exact H
        · replace H := H.2 c22
          by_cases c32 : (gI h p 0) = 5
          · replace H := H.1 c32
            refine e_tab (pc' := 93) i35_4 (by rw [c32]; rfl) ?_
            refine e_cn (pc' := 94) i35_93 rfl ?_
            refine e_rt i35_94 rfl ?_
            exact H
          · replace H := H.2 c32
            by_cases c33 : (gI h p 0) = 6
            · replace H := H.1 c33
              refine e_tab (pc' := 69) i35_4 (by rw [c33]; rfl) ?_
              refine e_ld (pc' := 70) i35_69 rfl rfl ?_
              refine e_ld (pc' := 71) i35_70 rfl rfl ?_
              obtain ⟨r35, s34, H⟩ := H
              refine e_cI (w := .int r35) (As := [.ref p, .int y]) (rest := []) (pc' := 74) i35_71 rfl rfl rfl rfl (by show (Nat.beq (x_kd 29) 0 && x_is p _ (MC 29) 0) = true; rw [show x_kd 29 = 0 by decide +kernel, show MC 29 = 3 by decide +kernel, (x_isP hp hw.1)]; rfl) s34 ?_
              refine e_if (pc' := 77) i35_74 rfl (fun c36 => ?_) (fun c36 => ?_)
              · have d37 : ¬ (r35 = 0) := (of_decide_eq_true c36)
                replace H := H.2 d37
                refine e_cn (pc' := 90) i35_89 rfl ?_
                refine e_rt i35_90 rfl ?_
                exact H
              · have d38 : r35 = 0 := (Decidable.not_not.mp (of_decide_eq_false c36))
                replace H := H.1 d38
                refine e_ld (pc' := 78) i35_77 rfl rfl ?_
                refine e_ld (pc' := 79) i35_78 rfl rfl ?_
                obtain ⟨r40, s39, H⟩ := H
                refine e_cI (w := .int r40) (As := [.ref p, .int x]) (rest := []) (pc' := 82) i35_79 rfl rfl rfl rfl (by show (Nat.beq (x_kd 36) 0 && x_is p _ (MC 36) 0) = true; rw [show x_kd 36 = 0 by decide +kernel, show MC 36 = 3 by decide +kernel, (x_isP hp hw.1)]; rfl) s39 ?_
                refine e_reg (pc' := 90) (ls' := [some (.ref p), some (.int x), some (.int y)]) (st' := [.int (b2i (if r40 = 0 then (false) else (true)))]) (fun kj41 => ?_) ?_
                · skip
                  refine e_if (pc' := 85) i35_82 rfl (fun c42 => ?_) (fun c42 => ?_)
                  · have d43 : r40 = 0 := (of_decide_eq_true c42)
                    refine e_cn (pc' := 90) i35_89 rfl ?_
                    exact (by simp only [if_pos d43] at kj41 ⊢; exact kj41)
                  · have d44 : ¬ (r40 = 0) := (of_decide_eq_false c42)
                    refine e_cn (pc' := 86) i35_85 rfl ?_
                    refine e_go i35_86 ?_
                    exact (by simp only [if_neg d44] at kj41 ⊢; exact kj41)
                refine e_rt (r := some (.int (b2i (if r40 = 0 then (false) else (true))))) i35_90 (by simp only [x_rt, show MR 35 = some .boolean by decide +kernel, b2i_01, cond_true]) ?_
                exact H
            · replace H := H.2 c33
              by_cases c45 : (gI h p 0) = 7
              · replace H := H.1 c45
                refine e_tab (pc' := 91) i35_4 (by rw [c45]; rfl) ?_
                refine e_cn (pc' := 92) i35_91 rfl ?_
                refine e_rt i35_92 rfl ?_
                exact H
              · replace H := H.2 c45
                refine e_tab (pc' := 93) i35_4 (x_tgt_out (by decide) (fun k (hk : k < 7) => by rcases (show k = 0 ∨ k = 1 ∨ k = 2 ∨ k = 3 ∨ k = 4 ∨ k = 5 ∨ k = 6 by omega) with rfl | rfl | rfl | rfl | rfl | rfl | rfl <;> assumption)) ?_
                refine e_cn (pc' := 94) i35_93 rfl ?_
                refine e_rt i35_94 rfl ?_
                exact H
-- FloorTurn$Part.hasRoomFor(I)Z
set_option maxHeartbeats 8000000 in
set_option maxRecDepth 100000 in
theorem v36 {L : Nat} {xs : Nat → Int32} {Q : Option Value → Hp → Prop} {h : Hp} {p : Nat} {x : Int32} (hw : HW h) (hp : PT p)
  (H : (gR h p 4 = none → (Q (some (.int 0)) h)) ∧ (∀ q2 : Nat, gR h p 4 = some q2 → (((x = 0) → (Q (some (.int 0)) h)) ∧ (¬ (x = 0) → ((RQ q2 h.1) ∧ ((x = (gI h q2 4)) → (Q (some (.int (b2i (if (2 * (gI h q2 5)) ≤ (gI h p 7) then (false) else (true))))) h)) ∧ (¬ (x = (gI h q2 4)) → (((x = (gI h q2 6)) → (Q (some (.int (b2i (if (2 * (gI h q2 7)) ≤ (gI h p 8) then (false) else (true))))) h)) ∧ (¬ (x = (gI h q2 6)) → (Q (some (.int 0)) h))))))))) : ∃ r h', Sp L xs 36 [.ref p, .int x] h r h' ∧ Q r h' := by
  refine sp_ex (ls := [some (.ref p), some (.int x)]) rfl ?_
  refine e_ld (pc' := 1) i36_0 rfl rfl ?_
  cases hr1 : gR h p 4 with
  | none =>
    replace H := H.1 hr1
    refine e_get (w := .null) (pc' := 4) i36_1 rfl (x_isP hp hw.1) (x_fvN (by decide +kernel) hr1) ?_
    refine e_nul (pc' := 11) i36_4 rfl ?_
    refine e_cn (pc' := 12) i36_11 rfl ?_
    refine e_rt i36_12 rfl ?_
    exact H
  | some q2 =>
    replace H := H.2 _ hr1
    refine e_get (w := .ref q2) (pc' := 4) i36_1 rfl (x_isP hp hw.1) (x_fvR (by decide +kernel) hr1) ?_
    refine e_nur (pc' := 7) i36_4 rfl ?_
    refine e_ld (pc' := 8) i36_7 rfl rfl ?_
    refine e_if (pc' := 11) i36_8 rfl (fun c3 => ?_) (fun c3 => ?_)
    · have d4 : ¬ (x = 0) := (of_decide_eq_true c3)
      replace H := H.2 d4
      refine e_ld (pc' := 14) i36_13 rfl rfl ?_
      refine e_ld (pc' := 15) i36_14 rfl rfl ?_
      refine e_get (w := .ref q2) (pc' := 18) i36_15 rfl (x_isP hp hw.1) (x_fvR (by decide +kernel) hr1) ?_
      obtain ⟨g5, H⟩ := H
      refine e_get (w := .int (gI h q2 4)) (pc' := 21) i36_18 rfl (x_isV g5.1 g5.2) rfl ?_
      refine e_ic (pc' := 24) i36_21 rfl (fun c6 => ?_) (fun c6 => ?_)
      · have d7 : ¬ (x = (gI h q2 4)) := (of_decide_eq_true c6)
        replace H := H.2 d7
        refine e_ld (pc' := 47) i36_46 rfl rfl ?_
        refine e_ld (pc' := 48) i36_47 rfl rfl ?_
        refine e_get (w := .ref q2) (pc' := 51) i36_48 rfl (x_isP hp hw.1) (x_fvR (by decide +kernel) hr1) ?_
        refine e_get (w := .int (gI h q2 6)) (pc' := 54) i36_51 rfl (x_isV g5.1 g5.2) rfl ?_
        refine e_ic (pc' := 57) i36_54 rfl (fun c8 => ?_) (fun c8 => ?_)
        · have d9 : ¬ (x = (gI h q2 6)) := (of_decide_eq_true c8)
          replace H := H.2 d9
          refine e_cn (pc' := 78) i36_77 rfl ?_
          refine e_rt i36_78 rfl ?_
          exact H
        · have d10 : x = (gI h q2 6) := (Decidable.not_not.mp (of_decide_eq_false c8))
          replace H := H.1 d10
          refine e_ld (pc' := 58) i36_57 rfl rfl ?_
          refine e_get (w := .int (gI h p 8)) (pc' := 61) i36_58 rfl (x_isP hp hw.1) rfl ?_
          refine e_cn (pc' := 62) i36_61 rfl ?_
          refine e_ld (pc' := 63) i36_62 rfl rfl ?_
          refine e_get (w := .ref q2) (pc' := 66) i36_63 rfl (x_isP hp hw.1) (x_fvR (by decide +kernel) hr1) ?_
          refine e_get (w := .int (gI h q2 7)) (pc' := 69) i36_66 rfl (x_isV g5.1 g5.2) rfl ?_
          refine e_ib (z := 2 * (gI h q2 7)) (pc' := 70) i36_69 rfl rfl ?_
          refine e_reg (pc' := 78) (ls' := [some (.ref p), some (.int x)]) (st' := [.int (b2i (if (2 * (gI h q2 7)) ≤ (gI h p 8) then (false) else (true)))]) (fun kj11 => ?_) ?_
          · skip
            refine e_ic (pc' := 73) i36_70 rfl (fun c12 => ?_) (fun c12 => ?_)
            · have d13 : (2 * (gI h q2 7)) ≤ (gI h p 8) := (of_decide_eq_true c12)
              refine e_cn (pc' := 78) i36_77 rfl ?_
              exact (by simp only [if_pos d13] at kj11 ⊢; exact kj11)
            · have d14 : ¬ ((2 * (gI h q2 7)) ≤ (gI h p 8)) := (of_decide_eq_false c12)
              refine e_cn (pc' := 74) i36_73 rfl ?_
              refine e_go i36_74 ?_
              exact (by simp only [if_neg d14] at kj11 ⊢; exact kj11)
          refine e_rt (r := some (.int (b2i (if (2 * (gI h q2 7)) ≤ (gI h p 8) then (false) else (true))))) i36_78 (by simp only [x_rt, show MR 36 = some .boolean by decide +kernel, b2i_01, cond_true]) ?_
          exact H
      · have d15 : x = (gI h q2 4) := (Decidable.not_not.mp (of_decide_eq_false c6))
        replace H := H.1 d15
        refine e_ld (pc' := 25) i36_24 rfl rfl ?_
        refine e_get (w := .int (gI h p 7)) (pc' := 28) i36_25 rfl (x_isP hp hw.1) rfl ?_
        refine e_cn (pc' := 29) i36_28 rfl ?_
        refine e_ld (pc' := 30) i36_29 rfl rfl ?_
        refine e_get (w := .ref q2) (pc' := 33) i36_30 rfl (x_isP hp hw.1) (x_fvR (by decide +kernel) hr1) ?_
        refine e_get (w := .int (gI h q2 5)) (pc' := 36) i36_33 rfl (x_isV g5.1 g5.2) rfl ?_
        refine e_ib (z := 2 * (gI h q2 5)) (pc' := 37) i36_36 rfl rfl ?_
        refine e_reg (pc' := 45) (ls' := [some (.ref p), some (.int x)]) (st' := [.int (b2i (if (2 * (gI h q2 5)) ≤ (gI h p 7) then (false) else (true)))]) (fun kj16 => ?_) ?_
        · skip
          refine e_ic (pc' := 40) i36_37 rfl (fun c17 => ?_) (fun c17 => ?_)
          · have d18 : (2 * (gI h q2 5)) ≤ (gI h p 7) := (of_decide_eq_true c17)
            refine e_cn (pc' := 45) i36_44 rfl ?_
            exact (by simp only [if_pos d18] at kj16 ⊢; exact kj16)
          · have d19 : ¬ ((2 * (gI h q2 5)) ≤ (gI h p 7)) := (of_decide_eq_false c17)
            refine e_cn (pc' := 41) i36_40 rfl ?_
            refine e_go i36_41 ?_
            exact (by simp only [if_neg d19] at kj16 ⊢; exact kj16)
        refine e_rt (r := some (.int (b2i (if (2 * (gI h q2 5)) ≤ (gI h p 7) then (false) else (true))))) i36_45 (by simp only [x_rt, show MR 36 = some .boolean by decide +kernel, b2i_01, cond_true]) ?_
        exact H
    · have d20 : x = 0 := (Decidable.not_not.mp (of_decide_eq_false c3))
      replace H := H.1 d20
      refine e_cn (pc' := 12) i36_11 rfl ?_
      refine e_rt i36_12 rfl ?_
      exact H
-- FloorTurn$Part.give(I)V
set_option maxHeartbeats 8000000 in
set_option maxRecDepth 100000 in
theorem v37 {L : Nat} {xs : Nat → Int32} {Q : Option Value → Hp → Prop} {h : Hp} {p : Nat} {x : Int32} (hw : HW h) (hp : PT p)
  (H : (gR h p 4 = none → ((((gI h p 0) = 4) → (Q none (sI (sI (sI h p 5 0) p 13 x) p 15 ((gI h p 15) + 1)))) ∧ (¬ ((gI h p 0) = 4) → (Q none (sI (sI h p 5 0) p 15 ((gI h p 15) + 1)))))) ∧ (∀ q2 : Nat, gR h p 4 = some q2 → ((((gI h p 0) = 4) → (Q none (sI (sI (sI h p 9 ((gI h p 9) - 1)) p 13 x) p 15 ((gI h p 15) + 1)))) ∧ (¬ ((gI h p 0) = 4) → (Q none (sI (sI h p 9 ((gI h p 9) - 1)) p 15 ((gI h p 15) + 1))))))) : ∃ r h', Sp L xs 37 [.ref p, .int x] h r h' ∧ Q r h' := by
  refine sp_ex (ls := [some (.ref p), some (.int x)]) rfl ?_
  refine e_ld (pc' := 1) i37_0 rfl rfl ?_
  cases hr1 : gR h p 4 with
  | none =>
    replace H := H.1 hr1
    refine e_get (w := .null) (pc' := 4) i37_1 rfl (x_isP hp hw.1) (x_fvN (by decide +kernel) hr1) ?_
    refine e_nul (pc' := 20) i37_4 rfl ?_
    refine e_ld (pc' := 21) i37_20 rfl rfl ?_
    refine e_cn (pc' := 22) i37_21 rfl ?_
    refine e_put (h' := sI h p 5 0) (pc' := 25) i37_22 rfl (x_isP hp hw.1) rfl ?_
    have w4 : HW (sI h p 5 0) := HW_sI hw
    refine e_ld (pc' := 26) i37_25 rfl rfl ?_
    refine e_get (w := .int (gI h p 0)) (pc' := 29) i37_26 rfl (x_isP hp w4.1) (congrArg Value.int (gI_ksI (by decide))) ?_
    refine e_cn (pc' := 30) i37_29 rfl ?_
    refine e_ic (pc' := 33) i37_30 rfl (fun c4 => ?_) (fun c4 => ?_)
    · have d5 : ¬ ((gI h p 0) = 4) := (of_decide_eq_true c4)
      replace H := H.2 d5
      refine e_ld (pc' := 39) i37_38 rfl rfl ?_
      refine e_stk (pc' := 40) i37_39 rfl rfl ?_
      refine e_get (w := .int (gI h p 15)) (pc' := 43) i37_40 rfl (x_isP hp w4.1) (congrArg Value.int (gI_ksI (by decide))) ?_
      refine e_cn (pc' := 44) i37_43 rfl ?_
      refine e_ib (z := (gI h p 15) + 1) (pc' := 45) i37_44 rfl rfl ?_
      refine e_put (h' := sI (sI h p 5 0) p 15 ((gI h p 15) + 1)) (pc' := 48) i37_45 rfl (x_isP hp w4.1) rfl ?_
      have w8 : HW (sI (sI h p 5 0) p 15 ((gI h p 15) + 1)) := HW_sI w4
      refine e_rt i37_48 rfl ?_
      exact H
    · have d7 : (gI h p 0) = 4 := (Decidable.not_not.mp (of_decide_eq_false c4))
      replace H := H.1 d7
      refine e_ld (pc' := 34) i37_33 rfl rfl ?_
      refine e_ld (pc' := 35) i37_34 rfl rfl ?_
      refine e_put (h' := sI (sI h p 5 0) p 13 x) (pc' := 38) i37_35 rfl (x_isP hp w4.1) rfl ?_
      have w10 : HW (sI (sI h p 5 0) p 13 x) := HW_sI w4
      refine e_ld (pc' := 39) i37_38 rfl rfl ?_
      refine e_stk (pc' := 40) i37_39 rfl rfl ?_
      refine e_get (w := .int (gI h p 15)) (pc' := 43) i37_40 rfl (x_isP hp w10.1) (congrArg Value.int (Eq.trans (gI_ksI (by decide)) (gI_ksI (by decide)))) ?_
      refine e_cn (pc' := 44) i37_43 rfl ?_
      refine e_ib (z := (gI h p 15) + 1) (pc' := 45) i37_44 rfl rfl ?_
      refine e_put (h' := sI (sI (sI h p 5 0) p 13 x) p 15 ((gI h p 15) + 1)) (pc' := 48) i37_45 rfl (x_isP hp w10.1) rfl ?_
      have w12 : HW (sI (sI (sI h p 5 0) p 13 x) p 15 ((gI h p 15) + 1)) := HW_sI w10
      refine e_rt i37_48 rfl ?_
      exact H
  | some q2 =>
    replace H := H.2 _ hr1
    refine e_get (w := .ref q2) (pc' := 4) i37_1 rfl (x_isP hp hw.1) (x_fvR (by decide +kernel) hr1) ?_
    refine e_nur (pc' := 7) i37_4 rfl ?_
    refine e_ld (pc' := 8) i37_7 rfl rfl ?_
    refine e_stk (pc' := 9) i37_8 rfl rfl ?_
    refine e_get (w := .int (gI h p 9)) (pc' := 12) i37_9 rfl (x_isP hp hw.1) rfl ?_
    refine e_cn (pc' := 13) i37_12 rfl ?_
    refine e_ib (z := (gI h p 9) - 1) (pc' := 14) i37_13 rfl rfl ?_
    refine e_put (h' := sI h p 9 ((gI h p 9) - 1)) (pc' := 17) i37_14 rfl (x_isP hp hw.1) rfl ?_
    have w11 : HW (sI h p 9 ((gI h p 9) - 1)) := HW_sI hw
    refine e_go i37_17 ?_
    refine e_ld (pc' := 26) i37_25 rfl rfl ?_
    refine e_get (w := .int (gI h p 0)) (pc' := 29) i37_26 rfl (x_isP hp w11.1) (congrArg Value.int (gI_ksI (by decide))) ?_
    refine e_cn (pc' := 30) i37_29 rfl ?_
    refine e_ic (pc' := 33) i37_30 rfl (fun c11 => ?_) (fun c11 => ?_)
    · have d12 : ¬ ((gI h p 0) = 4) := (of_decide_eq_true c11)
      replace H := H.2 d12
      refine e_ld (pc' := 39) i37_38 rfl rfl ?_
      refine e_stk (pc' := 40) i37_39 rfl rfl ?_
      refine e_get (w := .int (gI h p 15)) (pc' := 43) i37_40 rfl (x_isP hp w11.1) (congrArg Value.int (gI_ksI (by decide))) ?_
      refine e_cn (pc' := 44) i37_43 rfl ?_
      refine e_ib (z := (gI h p 15) + 1) (pc' := 45) i37_44 rfl rfl ?_
      refine e_put (h' := sI (sI h p 9 ((gI h p 9) - 1)) p 15 ((gI h p 15) + 1)) (pc' := 48) i37_45 rfl (x_isP hp w11.1) rfl ?_
      have w15 : HW (sI (sI h p 9 ((gI h p 9) - 1)) p 15 ((gI h p 15) + 1)) := HW_sI w11
      refine e_rt i37_48 rfl ?_
      exact H
    · have d14 : (gI h p 0) = 4 := (Decidable.not_not.mp (of_decide_eq_false c11))
      replace H := H.1 d14
      refine e_ld (pc' := 34) i37_33 rfl rfl ?_
      refine e_ld (pc' := 35) i37_34 rfl rfl ?_
      refine e_put (h' := sI (sI h p 9 ((gI h p 9) - 1)) p 13 x) (pc' := 38) i37_35 rfl (x_isP hp w11.1) rfl ?_
      have w17 : HW (sI (sI h p 9 ((gI h p 9) - 1)) p 13 x) := HW_sI w11
      refine e_ld (pc' := 39) i37_38 rfl rfl ?_
      refine e_stk (pc' := 40) i37_39 rfl rfl ?_
      refine e_get (w := .int (gI h p 15)) (pc' := 43) i37_40 rfl (x_isP hp w17.1) (congrArg Value.int (Eq.trans (gI_ksI (by decide)) (gI_ksI (by decide)))) ?_
      refine e_cn (pc' := 44) i37_43 rfl ?_
      refine e_ib (z := (gI h p 15) + 1) (pc' := 45) i37_44 rfl rfl ?_
      refine e_put (h' := sI (sI (sI h p 9 ((gI h p 9) - 1)) p 13 x) p 15 ((gI h p 15) + 1)) (pc' := 48) i37_45 rfl (x_isP hp w17.1) rfl ?_
      have w19 : HW (sI (sI (sI h p 9 ((gI h p 9) - 1)) p 13 x) p 15 ((gI h p 15) + 1)) := HW_sI w17
      refine e_rt i37_48 rfl ?_
      exact H
-- FloorTurn$Part.receive(II)V
set_option maxHeartbeats 8000000 in
set_option maxRecDepth 100000 in
theorem v38 {L : Nat} {xs : Nat → Int32} {Q : Option Value → Hp → Prop} {h : Hp} {p : Nat} {x : Int32} {y : Int32} (hw : HW h) (hp : PT p)
  (H : (gR h p 4 = none → ((((gI h p 0) = 7) → (Q none (sI (sI h p 12 y) p 14 ((gI h p 14) + 1)))) ∧ (¬ ((gI h p 0) = 7) → (Q none (sI (sI (sI h p 5 x) p 12 y) p 14 ((gI h p 14) + 1)))))) ∧ (∀ q2 : Nat, gR h p 4 = some q2 → ((RQ q2 h.1) ∧ ((x = (gI h q2 4)) → (Q none (sI (sI (sI h p 7 ((gI h p 7) + 1)) p 12 y) p 14 ((gI h p 14) + 1)))) ∧ (¬ (x = (gI h q2 4)) → (Q none (sI (sI (sI h p 8 ((gI h p 8) + 1)) p 12 y) p 14 ((gI h p 14) + 1))))))) : ∃ r h', Sp L xs 38 [.ref p, .int x, .int y] h r h' ∧ Q r h' := by
  refine sp_ex (ls := [some (.ref p), some (.int x), some (.int y)]) rfl ?_
  refine e_ld (pc' := 1) i38_0 rfl rfl ?_
  cases hr1 : gR h p 4 with
  | none =>
    replace H := H.1 hr1
    refine e_get (w := .null) (pc' := 4) i38_1 rfl (x_isP hp hw.1) (x_fvN (by decide +kernel) hr1) ?_
    refine e_nul (pc' := 44) i38_4 rfl ?_
    refine e_ld (pc' := 45) i38_44 rfl rfl ?_
    refine e_get (w := .int (gI h p 0)) (pc' := 48) i38_45 rfl (x_isP hp hw.1) rfl ?_
    refine e_cn (pc' := 50) i38_48 rfl ?_
    refine e_ic (pc' := 53) i38_50 rfl (fun c3 => ?_) (fun c3 => ?_)
    · have d4 : (gI h p 0) = 7 := (of_decide_eq_true c3)
      replace H := H.1 d4
      refine e_ld (pc' := 59) i38_58 rfl rfl ?_
      refine e_ld (pc' := 60) i38_59 rfl rfl ?_
      refine e_put (h' := sI h p 12 y) (pc' := 63) i38_60 rfl (x_isP hp hw.1) rfl ?_
      have w6 : HW (sI h p 12 y) := HW_sI hw
      refine e_ld (pc' := 64) i38_63 rfl rfl ?_
      refine e_stk (pc' := 65) i38_64 rfl rfl ?_
      refine e_get (w := .int (gI h p 14)) (pc' := 68) i38_65 rfl (x_isP hp w6.1) (congrArg Value.int (gI_ksI (by decide))) ?_
      refine e_cn (pc' := 69) i38_68 rfl ?_
      refine e_ib (z := (gI h p 14) + 1) (pc' := 70) i38_69 rfl rfl ?_
      refine e_put (h' := sI (sI h p 12 y) p 14 ((gI h p 14) + 1)) (pc' := 73) i38_70 rfl (x_isP hp w6.1) rfl ?_
      have w8 : HW (sI (sI h p 12 y) p 14 ((gI h p 14) + 1)) := HW_sI w6
      refine e_rt i38_73 rfl ?_
      exact H
    · have d7 : ¬ ((gI h p 0) = 7) := (of_decide_eq_false c3)
      replace H := H.2 d7
      refine e_ld (pc' := 54) i38_53 rfl rfl ?_
      refine e_ld (pc' := 55) i38_54 rfl rfl ?_
      refine e_put (h' := sI h p 5 x) (pc' := 58) i38_55 rfl (x_isP hp hw.1) rfl ?_
      have w9 : HW (sI h p 5 x) := HW_sI hw
      refine e_ld (pc' := 59) i38_58 rfl rfl ?_
      refine e_ld (pc' := 60) i38_59 rfl rfl ?_
      refine e_put (h' := sI (sI h p 5 x) p 12 y) (pc' := 63) i38_60 rfl (x_isP hp w9.1) rfl ?_
      have w11 : HW (sI (sI h p 5 x) p 12 y) := HW_sI w9
      refine e_ld (pc' := 64) i38_63 rfl rfl ?_
      refine e_stk (pc' := 65) i38_64 rfl rfl ?_
      refine e_get (w := .int (gI h p 14)) (pc' := 68) i38_65 rfl (x_isP hp w11.1) (congrArg Value.int (Eq.trans (gI_ksI (by decide)) (gI_ksI (by decide)))) ?_
      refine e_cn (pc' := 69) i38_68 rfl ?_
      refine e_ib (z := (gI h p 14) + 1) (pc' := 70) i38_69 rfl rfl ?_
      refine e_put (h' := sI (sI (sI h p 5 x) p 12 y) p 14 ((gI h p 14) + 1)) (pc' := 73) i38_70 rfl (x_isP hp w11.1) rfl ?_
      have w13 : HW (sI (sI (sI h p 5 x) p 12 y) p 14 ((gI h p 14) + 1)) := HW_sI w11
      refine e_rt i38_73 rfl ?_
      exact H
  | some q2 =>
    replace H := H.2 _ hr1
    refine e_get (w := .ref q2) (pc' := 4) i38_1 rfl (x_isP hp hw.1) (x_fvR (by decide +kernel) hr1) ?_
    refine e_nur (pc' := 7) i38_4 rfl ?_
    refine e_ld (pc' := 8) i38_7 rfl rfl ?_
    refine e_ld (pc' := 9) i38_8 rfl rfl ?_
    refine e_get (w := .ref q2) (pc' := 12) i38_9 rfl (x_isP hp hw.1) (x_fvR (by decide +kernel) hr1) ?_
    obtain ⟨g11, H⟩ := H
    refine e_get (w := .int (gI h q2 4)) (pc' := 15) i38_12 rfl (x_isV g11.1 g11.2) rfl ?_
    refine e_ic (pc' := 18) i38_15 rfl (fun c12 => ?_) (fun c12 => ?_)
    · have d13 : ¬ (x = (gI h q2 4)) := (of_decide_eq_true c12)
      replace H := H.2 d13
      refine e_ld (pc' := 32) i38_31 rfl rfl ?_
      refine e_stk (pc' := 33) i38_32 rfl rfl ?_
      refine e_get (w := .int (gI h p 8)) (pc' := 36) i38_33 rfl (x_isP hp hw.1) rfl ?_
      refine e_cn (pc' := 37) i38_36 rfl ?_
      refine e_ib (z := (gI h p 8) + 1) (pc' := 38) i38_37 rfl rfl ?_
      refine e_put (h' := sI h p 8 ((gI h p 8) + 1)) (pc' := 41) i38_38 rfl (x_isP hp hw.1) rfl ?_
      have w15 : HW (sI h p 8 ((gI h p 8) + 1)) := HW_sI hw
      refine e_go i38_41 ?_
      refine e_ld (pc' := 59) i38_58 rfl rfl ?_
      refine e_ld (pc' := 60) i38_59 rfl rfl ?_
      refine e_put (h' := sI (sI h p 8 ((gI h p 8) + 1)) p 12 y) (pc' := 63) i38_60 rfl (x_isP hp w15.1) rfl ?_
      have w17 : HW (sI (sI h p 8 ((gI h p 8) + 1)) p 12 y) := HW_sI w15
      refine e_ld (pc' := 64) i38_63 rfl rfl ?_
      refine e_stk (pc' := 65) i38_64 rfl rfl ?_
      refine e_get (w := .int (gI h p 14)) (pc' := 68) i38_65 rfl (x_isP hp w17.1) (congrArg Value.int (Eq.trans (gI_ksI (by decide)) (gI_ksI (by decide)))) ?_
      refine e_cn (pc' := 69) i38_68 rfl ?_
      refine e_ib (z := (gI h p 14) + 1) (pc' := 70) i38_69 rfl rfl ?_
      refine e_put (h' := sI (sI (sI h p 8 ((gI h p 8) + 1)) p 12 y) p 14 ((gI h p 14) + 1)) (pc' := 73) i38_70 rfl (x_isP hp w17.1) rfl ?_
      have w19 : HW (sI (sI (sI h p 8 ((gI h p 8) + 1)) p 12 y) p 14 ((gI h p 14) + 1)) := HW_sI w17
      refine e_rt i38_73 rfl ?_
      exact H
    · have d17 : x = (gI h q2 4) := (Decidable.not_not.mp (of_decide_eq_false c12))
      replace H := H.1 d17
      refine e_ld (pc' := 19) i38_18 rfl rfl ?_
      refine e_stk (pc' := 20) i38_19 rfl rfl ?_
      refine e_get (w := .int (gI h p 7)) (pc' := 23) i38_20 rfl (x_isP hp hw.1) rfl ?_
      refine e_cn (pc' := 24) i38_23 rfl ?_
      refine e_ib (z := (gI h p 7) + 1) (pc' := 25) i38_24 rfl rfl ?_
      refine e_put (h' := sI h p 7 ((gI h p 7) + 1)) (pc' := 28) i38_25 rfl (x_isP hp hw.1) rfl ?_
      have w19 : HW (sI h p 7 ((gI h p 7) + 1)) := HW_sI hw
      refine e_go i38_28 ?_
      refine e_ld (pc' := 59) i38_58 rfl rfl ?_
      refine e_ld (pc' := 60) i38_59 rfl rfl ?_
      refine e_put (h' := sI (sI h p 7 ((gI h p 7) + 1)) p 12 y) (pc' := 63) i38_60 rfl (x_isP hp w19.1) rfl ?_
      have w21 : HW (sI (sI h p 7 ((gI h p 7) + 1)) p 12 y) := HW_sI w19
      refine e_ld (pc' := 64) i38_63 rfl rfl ?_
      refine e_stk (pc' := 65) i38_64 rfl rfl ?_
      refine e_get (w := .int (gI h p 14)) (pc' := 68) i38_65 rfl (x_isP hp w21.1) (congrArg Value.int (Eq.trans (gI_ksI (by decide)) (gI_ksI (by decide)))) ?_
      refine e_cn (pc' := 69) i38_68 rfl ?_
      refine e_ib (z := (gI h p 14) + 1) (pc' := 70) i38_69 rfl rfl ?_
      refine e_put (h' := sI (sI (sI h p 7 ((gI h p 7) + 1)) p 12 y) p 14 ((gI h p 14) + 1)) (pc' := 73) i38_70 rfl (x_isP hp w21.1) rfl ?_
      have w23 : HW (sI (sI (sI h p 7 ((gI h p 7) + 1)) p 12 y) p 14 ((gI h p 14) + 1)) := HW_sI w21
      refine e_rt i38_73 rfl ?_
      exact H
-- FloorTurn$Part.countItems()I
set_option maxHeartbeats 8000000 in
set_option maxRecDepth 100000 in
theorem v39 {L : Nat} {xs : Nat → Int32} {Q : Option Value → Hp → Prop} {h : Hp} {p : Nat} (hw : HW h) (hp : PT p)
  (H : Q (some (.int ((((b2i (if (gI h p 5) = 0 then (false) else (true))) + (gI h p 7)) + (gI h p 8)) + (gI h p 9)))) h) : ∃ r h', Sp L xs 39 [.ref p] h r h' ∧ Q r h' := by
  refine sp_ex (ls := [some (.ref p)]) rfl ?_
  refine e_ld (pc' := 1) i39_0 rfl rfl ?_
  refine e_get (w := .int (gI h p 5)) (pc' := 4) i39_1 rfl (x_isP hp hw.1) rfl ?_
  refine e_reg (pc' := 12) (ls' := [some (.ref p)]) (st' := [.int (b2i (if (gI h p 5) = 0 then (false) else (true)))]) (fun kj1 => ?_) ?_
  · skip
    refine e_if (pc' := 7) i39_4 rfl (fun c2 => ?_) (fun c2 => ?_)
    · have d3 : (gI h p 5) = 0 := (of_decide_eq_true c2)
      refine e_cn (pc' := 12) i39_11 rfl ?_
      exact (by simp only [if_pos d3] at kj1 ⊢; exact kj1)
    · have d4 : ¬ ((gI h p 5) = 0) := (of_decide_eq_false c2)
      refine e_cn (pc' := 8) i39_7 rfl ?_
      refine e_go i39_8 ?_
      exact (by simp only [if_neg d4] at kj1 ⊢; exact kj1)
  refine e_ld (pc' := 13) i39_12 rfl rfl ?_
  refine e_get (w := .int (gI h p 7)) (pc' := 16) i39_13 rfl (x_isP hp hw.1) rfl ?_
  refine e_ib (z := (b2i (if (gI h p 5) = 0 then (false) else (true))) + (gI h p 7)) (pc' := 17) i39_16 rfl rfl ?_
  refine e_ld (pc' := 18) i39_17 rfl rfl ?_
  refine e_get (w := .int (gI h p 8)) (pc' := 21) i39_18 rfl (x_isP hp hw.1) rfl ?_
  refine e_ib (z := ((b2i (if (gI h p 5) = 0 then (false) else (true))) + (gI h p 7)) + (gI h p 8)) (pc' := 22) i39_21 rfl rfl ?_
  refine e_ld (pc' := 23) i39_22 rfl rfl ?_
  refine e_get (w := .int (gI h p 9)) (pc' := 26) i39_23 rfl (x_isP hp hw.1) rfl ?_
  refine e_ib (z := (((b2i (if (gI h p 5) = 0 then (false) else (true))) + (gI h p 7)) + (gI h p 8)) + (gI h p 9)) (pc' := 27) i39_26 rfl rfl ?_
  refine e_rt i39_27 rfl ?_
  exact H
-- FloorTurn$Part.packed()J
set_option maxHeartbeats 8000000 in
set_option maxRecDepth 100000 in
theorem v40 {L : Nat} {xs : Nat → Int32} {Q : Option Value → Hp → Prop} {h : Hp} {p : Nat} (hw : HW h) (hp : PT p)
  (H : ∀ y1 : Int64, y1 = (((((gI h p 5).toInt64) <<< ((6 : Int32).toInt64 &&& 63)) ||| ((gI h p 6).toInt64)) <<< ((4 : Int32).toInt64 &&& 63)) ||| ((gI h p 7).toInt64) → ∀ y2 : Int64, y2 = (((y1 <<< ((4 : Int32).toInt64 &&& 63)) ||| ((gI h p 8).toInt64)) <<< ((4 : Int32).toInt64 &&& 63)) ||| ((gI h p 9).toInt64) → ∀ y7 : Int64, y7 = (((y2 <<< ((6 : Int32).toInt64 &&& 63)) ||| ((gI h p 10).toInt64)) <<< ((1 : Int32).toInt64 &&& 63)) ||| ((b2i (if (gI h p 11) = 0 then (false) else (true))).toInt64) → Q (some (.long ((((y7 <<< ((2 : Int32).toInt64 &&& 63)) ||| ((gI h p 12).toInt64)) <<< ((2 : Int32).toInt64 &&& 63)) ||| ((gI h p 13).toInt64)))) h) : ∃ r h', Sp L xs 40 [.ref p] h r h' ∧ Q r h' := by
  refine sp_ex (ls := [some (.ref p), none, none]) rfl ?_
  refine e_ld (pc' := 1) i40_0 rfl rfl ?_
  refine e_get (w := .int (gI h p 5)) (pc' := 4) i40_1 rfl (x_isP hp hw.1) rfl ?_
  refine e_un (pc' := 5) i40_4 rfl rfl ?_
  refine e_st (ls' := [some (.ref p), some (.long ((gI h p 5).toInt64)), none]) (pc' := 6) i40_5 rfl rfl rfl ?_
  refine e_ld (pc' := 7) i40_6 rfl rfl ?_
  refine e_cn (pc' := 9) i40_7 rfl ?_
  refine e_lshl (pc' := 10) i40_9 rfl ?_
  refine e_ld (pc' := 11) i40_10 rfl rfl ?_
  refine e_get (w := .int (gI h p 6)) (pc' := 14) i40_11 rfl (x_isP hp hw.1) rfl ?_
  refine e_un (pc' := 15) i40_14 rfl rfl ?_
  refine e_lb (z := (((gI h p 5).toInt64) <<< ((6 : Int32).toInt64 &&& 63)) ||| ((gI h p 6).toInt64)) (pc' := 16) i40_15 rfl rfl ?_
  refine e_st (ls' := [some (.ref p), some (.long ((((gI h p 5).toInt64) <<< ((6 : Int32).toInt64 &&& 63)) ||| ((gI h p 6).toInt64))), none]) (pc' := 17) i40_16 rfl rfl rfl ?_
  refine e_ld (pc' := 18) i40_17 rfl rfl ?_
  refine e_cn (pc' := 19) i40_18 rfl ?_
  refine e_lshl (pc' := 20) i40_19 rfl ?_
  refine e_ld (pc' := 21) i40_20 rfl rfl ?_
  refine e_get (w := .int (gI h p 7)) (pc' := 24) i40_21 rfl (x_isP hp hw.1) rfl ?_
  refine e_un (pc' := 25) i40_24 rfl rfl ?_
  refine e_lb (z := (((((gI h p 5).toInt64) <<< ((6 : Int32).toInt64 &&& 63)) ||| ((gI h p 6).toInt64)) <<< ((4 : Int32).toInt64 &&& 63)) ||| ((gI h p 7).toInt64)) (pc' := 26) i40_25 rfl rfl ?_
  replace H := H _ rfl
  generalize (((((gI h p 5).toInt64) <<< ((6 : Int32).toInt64 &&& 63)) ||| ((gI h p 6).toInt64)) <<< ((4 : Int32).toInt64 &&& 63)) ||| ((gI h p 7).toInt64) = y1 at H ⊢
  refine e_st (ls' := [some (.ref p), some (.long y1), none]) (pc' := 27) i40_26 rfl rfl rfl ?_
  refine e_ld (pc' := 28) i40_27 rfl rfl ?_
  refine e_cn (pc' := 29) i40_28 rfl ?_
  refine e_lshl (pc' := 30) i40_29 rfl ?_
  refine e_ld (pc' := 31) i40_30 rfl rfl ?_
  refine e_get (w := .int (gI h p 8)) (pc' := 34) i40_31 rfl (x_isP hp hw.1) rfl ?_
  refine e_un (pc' := 35) i40_34 rfl rfl ?_
  refine e_lb (z := (y1 <<< ((4 : Int32).toInt64 &&& 63)) ||| ((gI h p 8).toInt64)) (pc' := 36) i40_35 rfl rfl ?_
  refine e_st (ls' := [some (.ref p), some (.long ((y1 <<< ((4 : Int32).toInt64 &&& 63)) ||| ((gI h p 8).toInt64))), none]) (pc' := 37) i40_36 rfl rfl rfl ?_
  refine e_ld (pc' := 38) i40_37 rfl rfl ?_
  refine e_cn (pc' := 39) i40_38 rfl ?_
  refine e_lshl (pc' := 40) i40_39 rfl ?_
  refine e_ld (pc' := 41) i40_40 rfl rfl ?_
  refine e_get (w := .int (gI h p 9)) (pc' := 44) i40_41 rfl (x_isP hp hw.1) rfl ?_
  refine e_un (pc' := 45) i40_44 rfl rfl ?_
  refine e_lb (z := (((y1 <<< ((4 : Int32).toInt64 &&& 63)) ||| ((gI h p 8).toInt64)) <<< ((4 : Int32).toInt64 &&& 63)) ||| ((gI h p 9).toInt64)) (pc' := 46) i40_45 rfl rfl ?_
  replace H := H _ rfl
  generalize (((y1 <<< ((4 : Int32).toInt64 &&& 63)) ||| ((gI h p 8).toInt64)) <<< ((4 : Int32).toInt64 &&& 63)) ||| ((gI h p 9).toInt64) = y2 at H ⊢
  refine e_st (ls' := [some (.ref p), some (.long y2), none]) (pc' := 47) i40_46 rfl rfl rfl ?_
  refine e_ld (pc' := 48) i40_47 rfl rfl ?_
  refine e_cn (pc' := 50) i40_48 rfl ?_
  refine e_lshl (pc' := 51) i40_50 rfl ?_
  refine e_ld (pc' := 52) i40_51 rfl rfl ?_
  refine e_get (w := .int (gI h p 10)) (pc' := 55) i40_52 rfl (x_isP hp hw.1) rfl ?_
  refine e_un (pc' := 56) i40_55 rfl rfl ?_
  refine e_lb (z := (y2 <<< ((6 : Int32).toInt64 &&& 63)) ||| ((gI h p 10).toInt64)) (pc' := 57) i40_56 rfl rfl ?_
  refine e_st (ls' := [some (.ref p), some (.long ((y2 <<< ((6 : Int32).toInt64 &&& 63)) ||| ((gI h p 10).toInt64))), none]) (pc' := 58) i40_57 rfl rfl rfl ?_
  refine e_ld (pc' := 59) i40_58 rfl rfl ?_
  refine e_cn (pc' := 60) i40_59 rfl ?_
  refine e_lshl (pc' := 61) i40_60 rfl ?_
  refine e_ld (pc' := 62) i40_61 rfl rfl ?_
  refine e_get (w := .int (gI h p 11)) (pc' := 65) i40_62 rfl (x_isP hp hw.1) rfl ?_
  refine e_reg (pc' := 73) (ls' := [some (.ref p), some (.long ((y2 <<< ((6 : Int32).toInt64 &&& 63)) ||| ((gI h p 10).toInt64))), none]) (st' := [.int (b2i (if (gI h p 11) = 0 then (false) else (true))), .long (((y2 <<< ((6 : Int32).toInt64 &&& 63)) ||| ((gI h p 10).toInt64)) <<< ((1 : Int32).toInt64 &&& 63))]) (fun kj3 => ?_) ?_
  · skip
    refine e_if (pc' := 68) i40_65 rfl (fun c4 => ?_) (fun c4 => ?_)
    · have d5 : (gI h p 11) = 0 := (of_decide_eq_true c4)
      refine e_cn (pc' := 73) i40_72 rfl ?_
      exact (by simp only [if_pos d5] at kj3 ⊢; exact kj3)
    · have d6 : ¬ ((gI h p 11) = 0) := (of_decide_eq_false c4)
      refine e_cn (pc' := 69) i40_68 rfl ?_
      refine e_go i40_69 ?_
      exact (by simp only [if_neg d6] at kj3 ⊢; exact kj3)
  refine e_un (pc' := 74) i40_73 rfl rfl ?_
  refine e_lb (z := (((y2 <<< ((6 : Int32).toInt64 &&& 63)) ||| ((gI h p 10).toInt64)) <<< ((1 : Int32).toInt64 &&& 63)) ||| ((b2i (if (gI h p 11) = 0 then (false) else (true))).toInt64)) (pc' := 75) i40_74 rfl rfl ?_
  replace H := H _ rfl
  generalize (((y2 <<< ((6 : Int32).toInt64 &&& 63)) ||| ((gI h p 10).toInt64)) <<< ((1 : Int32).toInt64 &&& 63)) ||| ((b2i (if (gI h p 11) = 0 then (false) else (true))).toInt64) = y7 at H ⊢
  refine e_st (ls' := [some (.ref p), some (.long y7), none]) (pc' := 76) i40_75 rfl rfl rfl ?_
  refine e_ld (pc' := 77) i40_76 rfl rfl ?_
  refine e_cn (pc' := 78) i40_77 rfl ?_
  refine e_lshl (pc' := 79) i40_78 rfl ?_
  refine e_ld (pc' := 80) i40_79 rfl rfl ?_
  refine e_get (w := .int (gI h p 12)) (pc' := 83) i40_80 rfl (x_isP hp hw.1) rfl ?_
  refine e_un (pc' := 84) i40_83 rfl rfl ?_
  refine e_lb (z := (y7 <<< ((2 : Int32).toInt64 &&& 63)) ||| ((gI h p 12).toInt64)) (pc' := 85) i40_84 rfl rfl ?_
  refine e_st (ls' := [some (.ref p), some (.long ((y7 <<< ((2 : Int32).toInt64 &&& 63)) ||| ((gI h p 12).toInt64))), none]) (pc' := 86) i40_85 rfl rfl rfl ?_
  refine e_ld (pc' := 87) i40_86 rfl rfl ?_
  refine e_cn (pc' := 88) i40_87 rfl ?_
  refine e_lshl (pc' := 89) i40_88 rfl ?_
  refine e_ld (pc' := 90) i40_89 rfl rfl ?_
  refine e_get (w := .int (gI h p 13)) (pc' := 93) i40_90 rfl (x_isP hp hw.1) rfl ?_
  refine e_un (pc' := 94) i40_93 rfl rfl ?_
  refine e_lb (z := (((y7 <<< ((2 : Int32).toInt64 &&& 63)) ||| ((gI h p 12).toInt64)) <<< ((2 : Int32).toInt64 &&& 63)) ||| ((gI h p 13).toInt64)) (pc' := 95) i40_94 rfl rfl ?_
  refine e_rt i40_95 rfl ?_
  exact H
-- FloorTurn$Part.tell(I)I
set_option maxHeartbeats 8000000 in
set_option maxRecDepth 100000 in
theorem v41 {L : Nat} {xs : Nat → Int32} {Q : Option Value → Hp → Prop} {h : Hp} {p : Nat} {x : Int32} (hw : HW h) (hp : PT p)
  (H : ((x = 0) → (Q (some (.int (gI h p 0))) h)) ∧ (¬ (x = 0) → (((x = 1) → (Q (some (.int (gI h p 1))) h)) ∧ (¬ (x = 1) → (((x = 2) → (∃ (r5 : Int32), Sp L xs 34 [.ref p] h (some (.int r5)) h ∧ Q (some (.int r5)) h)) ∧ (¬ (x = 2) → (((x = 3) → (Q (some (.int (gI h p 6))) h)) ∧ (¬ (x = 3) → (((x = 4) → (Q (some (.int (gI h p 9))) h)) ∧ (¬ (x = 4) → (((x = 5) → (Q (some (.int (gI h p 10))) h)) ∧ (¬ (x = 5) → (((x = 6) → (Q (some (.int (b2i (if (gI h p 11) = 0 then (false) else (true))))) h)) ∧ (¬ (x = 6) → (((x = 7) → (Q (some (.int (gI h p 7))) h)) ∧ (¬ (x = 7) → (((x = 8) → (Q (some (.int (gI h p 8))) h)) ∧ (¬ (x = 8) → (((x = 9) → (Q (some (.int (gI h p 12))) h)) ∧ (¬ (x = 9) → (((x = 10) → (Q (some (.int (gI h p 13))) h)) ∧ (¬ (x = 10) → (((x = 11) → (Q (some (.int (gI h p 2))) h)) ∧ (¬ (x = 11) → (((x = 12) → (Q (some (.int (gI h p 3))) h)) ∧ (¬ (x = 12) → (((x = 13) → (Q (some (.int (gI h p 14))) h)) ∧ (¬ (x = 13) → (((x = 14) → (Q (some (.int (gI h p 15))) h)) ∧ (¬ (x = 14) → (Q (some (.int (-1))) h))))))))))))))))))))))))))))))) : ∃ r h', Sp L xs 41 [.ref p, .int x] h r h' ∧ Q r h' := by
  refine sp_ex (ls := [some (.ref p), some (.int x)]) rfl ?_
  refine e_ld (pc' := 1) i41_0 rfl rfl ?_
  by_cases c1 : x = 0
  · replace H := H.1 c1
    refine e_tab (pc' := 76) i41_1 (by rw [c1]; rfl) ?_
    refine e_ld (pc' := 77) i41_76 rfl rfl ?_
    refine e_get (w := .int (gI h p 0)) (pc' := 80) i41_77 rfl (x_isP hp hw.1) rfl ?_
    refine e_rt i41_80 rfl ?_
    exact H
  · replace H := H.2 c1
    by_cases c2 : x = 1
    · replace H := H.1 c2
      refine e_tab (pc' := 81) i41_1 (by rw [c2]; rfl) ?_
      refine e_ld (pc' := 82) i41_81 rfl rfl ?_
      refine e_get (w := .int (gI h p 1)) (pc' := 85) i41_82 rfl (x_isP hp hw.1) rfl ?_
      refine e_rt i41_85 rfl ?_
      exact H
    · replace H := H.2 c2
      by_cases c3 : x = 2
      · replace H := H.1 c3
        refine e_tab (pc' := 86) i41_1 (by rw [c3]; rfl) ?_
        refine e_ld (pc' := 87) i41_86 rfl rfl ?_
        obtain ⟨r5, s4, H⟩ := H
        refine e_cI (w := .int r5) (As := [.ref p]) (rest := []) (pc' := 90) i41_87 rfl rfl rfl rfl (by show (Nat.beq (x_kd 34) 0 && x_is p _ (MC 34) 0) = true; rw [show x_kd 34 = 0 by decide +kernel, show MC 34 = 3 by decide +kernel, (x_isP hp hw.1)]; rfl) s4 ?_
        refine e_rt i41_90 rfl ?_
        exact H
      · replace H := H.2 c3
        by_cases c6 : x = 3
        · replace H := H.1 c6
          refine e_tab (pc' := 91) i41_1 (by rw [c6]; rfl) ?_
          refine e_ld (pc' := 92) i41_91 rfl rfl ?_
          refine e_get (w := .int (gI h p 6)) (pc' := 95) i41_92 rfl (x_isP hp hw.1) rfl ?_
          refine e_rt i41_95 rfl ?_
          exact H
        · replace H := H.2 c6
          by_cases c7 : x = 4
          · replace H := H.1 c7
            refine e_tab (pc' := 96) i41_1 (by rw [c7]; rfl) ?_
            refine e_ld (pc' := 97) i41_96 rfl rfl ?_
            refine e_get (w := .int (gI h p 9)) (pc' := 100) i41_97 rfl (x_isP hp hw.1) rfl ?_
            refine e_rt i41_100 rfl ?_
            exact H
          · replace H := H.2 c7
            by_cases c8 : x = 5
            · replace H := H.1 c8
              refine e_tab (pc' := 101) i41_1 (by rw [c8]; rfl) ?_
              refine e_ld (pc' := 102) i41_101 rfl rfl ?_
              refine e_get (w := .int (gI h p 10)) (pc' := 105) i41_102 rfl (x_isP hp hw.1) rfl ?_
              refine e_rt i41_105 rfl ?_
              exact H
            · replace H := H.2 c8
              by_cases c9 : x = 6
              · replace H := H.1 c9
                refine e_tab (pc' := 106) i41_1 (by rw [c9]; rfl) ?_
                refine e_ld (pc' := 107) i41_106 rfl rfl ?_
                refine e_get (w := .int (gI h p 11)) (pc' := 110) i41_107 rfl (x_isP hp hw.1) rfl ?_
                refine e_reg (pc' := 118) (ls' := [some (.ref p), some (.int x)]) (st' := [.int (b2i (if (gI h p 11) = 0 then (false) else (true)))]) (fun kj10 => ?_) ?_
                · skip
                  refine e_if (pc' := 113) i41_110 rfl (fun c11 => ?_) (fun c11 => ?_)
                  · have d12 : (gI h p 11) = 0 := (of_decide_eq_true c11)
                    refine e_cn (pc' := 118) i41_117 rfl ?_
                    exact (by simp only [if_pos d12] at kj10 ⊢; exact kj10)
                  · have d13 : ¬ ((gI h p 11) = 0) := (of_decide_eq_false c11)
                    refine e_cn (pc' := 114) i41_113 rfl ?_
                    refine e_go i41_114 ?_
                    exact (by simp only [if_neg d13] at kj10 ⊢; exact kj10)
                refine e_rt i41_118 rfl ?_
                exact H
              · replace H := H.2 c9
                by_cases c14 : x = 7
                · replace H := H.1 c14
                  refine e_tab (pc' := 119) i41_1 (by rw [c14]; rfl) ?_
                  refine e_ld (pc' := 120) i41_119 rfl rfl ?_
                  refine e_get (w := .int (gI h p 7)) (pc' := 123) i41_120 rfl (x_isP hp hw.1) rfl ?_
                  refine e_rt i41_123 rfl ?_
                  exact H
                · replace H := H.2 c14
                  by_cases c15 : x = 8
                  · replace H := H.1 c15
                    refine e_tab (pc' := 124) i41_1 (by rw [c15]; rfl) ?_
                    refine e_ld (pc' := 125) i41_124 rfl rfl ?_
                    refine e_get (w := .int (gI h p 8)) (pc' := 128) i41_125 rfl (x_isP hp hw.1) rfl ?_
                    refine e_rt i41_128 rfl ?_
                    exact H
                  · replace H := H.2 c15
                    by_cases c16 : x = 9
                    · replace H := H.1 c16
                      refine e_tab (pc' := 129) i41_1 (by rw [c16]; rfl) ?_
                      refine e_ld (pc' := 130) i41_129 rfl rfl ?_
                      refine e_get (w := .int (gI h p 12)) (pc' := 133) i41_130 rfl (x_isP hp hw.1) rfl ?_
                      refine e_rt i41_133 rfl ?_
                      exact H
                    · replace H := H.2 c16
                      by_cases c17 : x = 10
                      · replace H := H.1 c17
                        refine e_tab (pc' := 134) i41_1 (by rw [c17]; rfl) ?_
                        refine e_ld (pc' := 135) i41_134 rfl rfl ?_
                        refine e_get (w := .int (gI h p 13)) (pc' := 138) i41_135 rfl (x_isP hp hw.1) rfl ?_
                        refine e_rt i41_138 rfl ?_
                        exact H
                      · replace H := H.2 c17
                        by_cases c18 : x = 11
                        · replace H := H.1 c18
                          refine e_tab (pc' := 139) i41_1 (by rw [c18]; rfl) ?_
                          refine e_ld (pc' := 140) i41_139 rfl rfl ?_
                          refine e_get (w := .int (gI h p 2)) (pc' := 143) i41_140 rfl (x_isP hp hw.1) rfl ?_
                          refine e_rt i41_143 rfl ?_
                          exact H
                        · replace H := H.2 c18
                          by_cases c19 : x = 12
                          · replace H := H.1 c19
                            refine e_tab (pc' := 144) i41_1 (by rw [c19]; rfl) ?_
                            refine e_ld (pc' := 145) i41_144 rfl rfl ?_
                            refine e_get (w := .int (gI h p 3)) (pc' := 148) i41_145 rfl (x_isP hp hw.1) rfl ?_
                            refine e_rt i41_148 rfl ?_
                            exact H
                          · replace H := H.2 c19
                            by_cases c20 : x = 13
                            · replace H := H.1 c20
                              refine e_tab (pc' := 149) i41_1 (by rw [c20]; rfl) ?_
                              refine e_ld (pc' := 150) i41_149 rfl rfl ?_
                              refine e_get (w := .int (gI h p 14)) (pc' := 153) i41_150 rfl (x_isP hp hw.1) rfl ?_
                              refine e_rt i41_153 rfl ?_
                              exact H
                            · replace H := H.2 c20
                              by_cases c21 : x = 14
                              · replace H := H.1 c21
                                refine e_tab (pc' := 154) i41_1 (by rw [c21]; rfl) ?_
                                refine e_ld (pc' := 155) i41_154 rfl rfl ?_
                                refine e_get (w := .int (gI h p 15)) (pc' := 158) i41_155 rfl (x_isP hp hw.1) rfl ?_
                                refine e_rt i41_158 rfl ?_
                                exact H
                              · replace H := H.2 c21
                                refine e_tab (pc' := 159) i41_1 (x_tgt_out (by decide) (fun k (hk : k < 15) => by rcases (show k = 0 ∨ k = 1 ∨ k = 2 ∨ k = 3 ∨ k = 4 ∨ k = 5 ∨ k = 6 ∨ k = 7 ∨ k = 8 ∨ k = 9 ∨ k = 10 ∨ k = 11 ∨ k = 12 ∨ k = 13 ∨ k = 14 by omega) with rfl | rfl | rfl | rfl | rfl | rfl | rfl | rfl | rfl | rfl | rfl | rfl | rfl | rfl | rfl <;> assumption)) ?_
                                refine e_cn (pc' := 160) i41_159 rfl ?_
                                refine e_rt i41_160 rfl ?_
                                exact H
-- FloorTurn$Piece.cut(LFloorTurn$Floor;III)V
set_option maxHeartbeats 8000000 in
set_option maxRecDepth 100000 in
theorem v43 {L : Nat} {xs : Nat → Int32} {Q : Option Value → Hp → Prop} {h : Hp} {b : Nat} {y : Int32} {z : Int32} {u : Int32} (hw : HW h) (hb : SB b)
  (H : WP L xs 43 19 [some (.ref (b + 3)), some (.ref 4), some (.int y), some (.int z), some (.int u), some (.int 0), none, none] [] (sI (sI (sI h (b + 3) 6 z) (b + 3) 7 u) (b + 3) 8 0) Q) : ∃ r h', Sp L xs 43 [.ref (b + 3), .ref 4, .int y, .int z, .int u] h r h' ∧ Q r h' := by
  refine sp_ex (ls := [some (.ref (b + 3)), some (.ref 4), some (.int y), some (.int z), some (.int u), none, none, none]) rfl ?_
  refine e_ld (pc' := 1) i43_0 rfl rfl ?_
  refine e_ld (pc' := 2) i43_1 rfl rfl ?_
  refine e_put (h' := sI h (b + 3) 6 z) (pc' := 5) i43_2 rfl (x_isB3 hb hw.1) rfl ?_
  have w2 : HW (sI h (b + 3) 6 z) := HW_sI hw
  refine e_ld (pc' := 6) i43_5 rfl rfl ?_
  refine e_ld (pc' := 8) i43_6 rfl rfl ?_
  refine e_put (h' := sI (sI h (b + 3) 6 z) (b + 3) 7 u) (pc' := 11) i43_8 rfl (x_isB3 hb w2.1) rfl ?_
  have w4 : HW (sI (sI h (b + 3) 6 z) (b + 3) 7 u) := HW_sI w2
  refine e_ld (pc' := 12) i43_11 rfl rfl ?_
  refine e_cn (pc' := 13) i43_12 rfl ?_
  refine e_put (h' := sI (sI (sI h (b + 3) 6 z) (b + 3) 7 u) (b + 3) 8 0) (pc' := 16) i43_13 rfl (x_isB3 hb w4.1) rfl ?_
  have w6 : HW (sI (sI (sI h (b + 3) 6 z) (b + 3) 7 u) (b + 3) 8 0) := HW_sI w4
  refine e_cn (pc' := 17) i43_16 rfl ?_
  refine e_st (ls' := [some (.ref (b + 3)), some (.ref 4), some (.int y), some (.int z), some (.int u), some (.int 0), none, none]) (pc' := 19) i43_17 rfl rfl rfl ?_
  exact H
set_option maxHeartbeats 8000000 in
set_option maxRecDepth 100000 in
theorem v43_19 {L : Nat} {xs : Nat → Int32} {Q : Option Value → Hp → Prop} {h : Hp} {b : Nat} {l2 : Int32} {l3 : Int32} {l4 : Int32} {l5 : Int32} {z6 : Option Value} {z7 : Option Value} (hw : HW h) (hb : SB b)
  (H : ((l4 ≤ l5) → (Q none h)) ∧ (¬ (l4 ≤ l5) → (WP L xs 43 29 [some (.ref (b + 3)), some (.ref 4), some (.int l2), some (.int l3), some (.int l4), some (.int l5), some (.int 0), z7] [] h Q))) : WP L xs 43 19 [some (.ref (b + 3)), some (.ref 4), some (.int l2), some (.int l3), some (.int l4), some (.int l5), z6, z7] [] h Q := by
  refine e_ld (pc' := 21) i43_19 rfl rfl ?_
  refine e_ld (pc' := 23) i43_21 rfl rfl ?_
  refine e_ic (pc' := 26) i43_23 rfl (fun c1 => ?_) (fun c1 => ?_)
  · have d2 : l4 ≤ l5 := (of_decide_eq_true c1)
    replace H := H.1 d2
    refine e_rt i43_82 rfl ?_
    exact H
  · have d3 : ¬ (l4 ≤ l5) := (of_decide_eq_false c1)
    replace H := H.2 d3
    refine e_cn (pc' := 27) i43_26 rfl ?_
    refine e_st (ls' := [some (.ref (b + 3)), some (.ref 4), some (.int l2), some (.int l3), some (.int l4), some (.int l5), some (.int 0), z7]) (pc' := 29) i43_27 rfl rfl rfl ?_
    exact H
set_option maxHeartbeats 8000000 in
set_option maxRecDepth 100000 in
theorem v43_29 {L : Nat} {xs : Nat → Int32} {Q : Option Value → Hp → Prop} {h : Hp} {b : Nat} {l2 : Int32} {l3 : Int32} {l4 : Int32} {l5 : Int32} {l6 : Int32} {z7 : Option Value} (hw : HW h) (hb : SB b)
  (H : ((l3 ≤ l6) → (WP L xs 43 19 [some (.ref (b + 3)), some (.ref 4), some (.int l2), some (.int l3), some (.int l4), some (.int (l5 + 1)), some (.int l6), z7] [] h Q)) ∧ (¬ (l3 ≤ l6) → (∃ k4 : Nat, ((l2 + (12 * l5)) + l6) = nI k4 ∧ k4 < 144 ∧ (((gI h (10 + k4) 0) = 0) → (WP L xs 43 29 [some (.ref (b + 3)), some (.ref 4), some (.int l2), some (.int l3), some (.int l4), some (.int l5), some (.int (l6 + 1)), some (.ref (10 + k4))] [] h Q)) ∧ (¬ ((gI h (10 + k4) 0) = 0) → (∃ (h10 : Hp), Sp L xs 44 [.ref (b + 3), .ref (10 + k4), .int l6, .int l5] h none h10 ∧ WP L xs 43 29 [some (.ref (b + 3)), some (.ref 4), some (.int l2), some (.int l3), some (.int l4), some (.int l5), some (.int (l6 + 1)), some (.ref (10 + k4))] [] h10 Q))))) : WP L xs 43 29 [some (.ref (b + 3)), some (.ref 4), some (.int l2), some (.int l3), some (.int l4), some (.int l5), some (.int l6), z7] [] h Q := by
  refine e_ld (pc' := 31) i43_29 rfl rfl ?_
  refine e_ld (pc' := 32) i43_31 rfl rfl ?_
  refine e_ic (pc' := 35) i43_32 rfl (fun c1 => ?_) (fun c1 => ?_)
  · have d2 : l3 ≤ l6 := (of_decide_eq_true c1)
    replace H := H.1 d2
    refine e_inc (z := l5 + 1) (ls' := [some (.ref (b + 3)), some (.ref 4), some (.int l2), some (.int l3), some (.int l4), some (.int (l5 + 1)), some (.int l6), z7]) (pc' := 79) i43_76 rfl rfl rfl rfl ?_
    refine e_go i43_79 ?_
    exact H
  · have d3 : ¬ (l3 ≤ l6) := (of_decide_eq_false c1)
    replace H := H.2 d3
    refine e_ld (pc' := 36) i43_35 rfl rfl ?_
    refine e_get (w := .ref 5) (pc' := 39) i43_36 rfl (x_isC (by decide) hw.1 sh4) (x_fvR (by decide +kernel) (hw.2 4 1 5 lk4_1)) ?_
    refine e_ld (pc' := 40) i43_39 rfl rfl ?_
    refine e_cn (pc' := 42) i43_40 rfl ?_
    refine e_ld (pc' := 44) i43_42 rfl rfl ?_
    refine e_ib (z := 12 * l5) (pc' := 45) i43_44 rfl rfl ?_
    refine e_ib (z := l2 + (12 * l5)) (pc' := 46) i43_45 rfl rfl ?_
    refine e_ld (pc' := 48) i43_46 rfl rfl ?_
    refine e_ib (z := (l2 + (12 * l5)) + l6) (pc' := 49) i43_48 rfl rfl ?_
    obtain ⟨k4, e5, g6, H⟩ := H
    refine e_al (n := k4) (w := .ref (10 + k4)) (pc' := 50) i43_49 rfl (x_alE (a := 23) (by decide) hw.1 sh5 (by decide) e5 g6 (by decide)) (x_clE e5 g6 (by decide)) (x_agR (hw.2 _ _ _ (LK_p4 g6))) ?_
    refine e_st (ls' := [some (.ref (b + 3)), some (.ref 4), some (.int l2), some (.int l3), some (.int l4), some (.int l5), some (.int l6), some (.ref (10 + k4))]) (pc' := 52) i43_50 rfl rfl rfl ?_
    refine e_ld (pc' := 54) i43_52 rfl rfl ?_
    refine e_get (w := .int (gI h (10 + k4) 0)) (pc' := 57) i43_54 rfl (x_isP (PT_4 g6) hw.1) rfl ?_
    refine e_if (pc' := 60) i43_57 rfl (fun c7 => ?_) (fun c7 => ?_)
    · have d8 : (gI h (10 + k4) 0) = 0 := (of_decide_eq_true c7)
      replace H := H.1 d8
      refine e_inc (z := l6 + 1) (ls' := [some (.ref (b + 3)), some (.ref 4), some (.int l2), some (.int l3), some (.int l4), some (.int l5), some (.int (l6 + 1)), some (.ref (10 + k4))]) (pc' := 73) i43_70 rfl rfl rfl rfl ?_
      refine e_go i43_73 ?_
      exact H
    · have d9 : ¬ ((gI h (10 + k4) 0) = 0) := (of_decide_eq_false c7)
      replace H := H.2 d9
      refine e_ld (pc' := 61) i43_60 rfl rfl ?_
      refine e_ld (pc' := 63) i43_61 rfl rfl ?_
      refine e_ld (pc' := 65) i43_63 rfl rfl ?_
      refine e_ld (pc' := 67) i43_65 rfl rfl ?_
      obtain ⟨h10, s11, H⟩ := H
      have w13q := HW_sp (show x_okm 44 = true by rfl) s11 hw
      have w13 : HW h10 := w13q.1
      refine e_cV (As := [.ref (b + 3), .ref (10 + k4), .int l6, .int l5]) (rest := []) (pc' := 70) i43_67 rfl rfl rfl rfl (by show (Nat.beq (x_kd 44) 0 && x_is (b + 3) _ (MC 44) 0) = true; rw [show x_kd 44 = 0 by decide +kernel, show MC 44 = 4 by decide +kernel, (x_isB3 hb hw.1)]; rfl) s11 ?_
      refine e_inc (z := l6 + 1) (ls' := [some (.ref (b + 3)), some (.ref 4), some (.int l2), some (.int l3), some (.int l4), some (.int l5), some (.int (l6 + 1)), some (.ref (10 + k4))]) (pc' := 73) i43_70 rfl rfl rfl rfl ?_
      refine e_go i43_73 ?_
      exact H
-- FloorTurn$Piece.keep(LFloorTurn$Part;II)V
set_option maxHeartbeats 8000000 in
set_option maxRecDepth 100000 in
theorem v44 {L : Nat} {xs : Nat → Int32} {Q : Option Value → Hp → Prop} {h : Hp} {b : Nat} {o : Nat} {y : Int32} {z : Int32} (hw : HW h) (hb : SB b) (ho : PT o)
  (H : ∃ k1 : Nat, (gI h (b + 3) 8) = nI k1 ∧ k1 < 144 ∧ ∃ k5 : Nat, (gI (sI h (b + 4) k1 y) (b + 3) 8) = nI k5 ∧ k5 < 144 ∧ ∃ k9 : Nat, (gI (sI (sI h (b + 4) k1 y) (b + 5) k5 z) (b + 3) 8) = nI k9 ∧ k9 < 144 ∧ ∃ k13 : Nat, (gI (sI (sI (sI h (b + 4) k1 y) (b + 5) k5 z) (b + 6) k9 (gI (sI (sI h (b + 4) k1 y) (b + 5) k5 z) o 0)) (b + 3) 8) = nI k13 ∧ k13 < 144 ∧ ∃ k17 : Nat, (gI (sI (sI (sI (sI h (b + 4) k1 y) (b + 5) k5 z) (b + 6) k9 (gI (sI (sI h (b + 4) k1 y) (b + 5) k5 z) o 0)) (b + 7) k13 (gI (sI (sI (sI h (b + 4) k1 y) (b + 5) k5 z) (b + 6) k9 (gI (sI (sI h (b + 4) k1 y) (b + 5) k5 z) o 0)) o 1)) (b + 3) 8) = nI k17 ∧ k17 < 144 ∧ ∃ k21 : Nat, (gI (sI (sI (sI (sI (sI h (b + 4) k1 y) (b + 5) k5 z) (b + 6) k9 (gI (sI (sI h (b + 4) k1 y) (b + 5) k5 z) o 0)) (b + 7) k13 (gI (sI (sI (sI h (b + 4) k1 y) (b + 5) k5 z) (b + 6) k9 (gI (sI (sI h (b + 4) k1 y) (b + 5) k5 z) o 0)) o 1)) (b + 8) k17 (gI (sI (sI (sI (sI h (b + 4) k1 y) (b + 5) k5 z) (b + 6) k9 (gI (sI (sI h (b + 4) k1 y) (b + 5) k5 z) o 0)) (b + 7) k13 (gI (sI (sI (sI h (b + 4) k1 y) (b + 5) k5 z) (b + 6) k9 (gI (sI (sI h (b + 4) k1 y) (b + 5) k5 z) o 0)) o 1)) o 2)) (b + 3) 8) = nI k21 ∧ k21 < 144 ∧ Q none (sI (sI (sI (sI (sI (sI (sI h (b + 4) k1 y) (b + 5) k5 z) (b + 6) k9 (gI (sI (sI h (b + 4) k1 y) (b + 5) k5 z) o 0)) (b + 7) k13 (gI (sI (sI (sI h (b + 4) k1 y) (b + 5) k5 z) (b + 6) k9 (gI (sI (sI h (b + 4) k1 y) (b + 5) k5 z) o 0)) o 1)) (b + 8) k17 (gI (sI (sI (sI (sI h (b + 4) k1 y) (b + 5) k5 z) (b + 6) k9 (gI (sI (sI h (b + 4) k1 y) (b + 5) k5 z) o 0)) (b + 7) k13 (gI (sI (sI (sI h (b + 4) k1 y) (b + 5) k5 z) (b + 6) k9 (gI (sI (sI h (b + 4) k1 y) (b + 5) k5 z) o 0)) o 1)) o 2)) (b + 9) k21 (gI (sI (sI (sI (sI (sI h (b + 4) k1 y) (b + 5) k5 z) (b + 6) k9 (gI (sI (sI h (b + 4) k1 y) (b + 5) k5 z) o 0)) (b + 7) k13 (gI (sI (sI (sI h (b + 4) k1 y) (b + 5) k5 z) (b + 6) k9 (gI (sI (sI h (b + 4) k1 y) (b + 5) k5 z) o 0)) o 1)) (b + 8) k17 (gI (sI (sI (sI (sI h (b + 4) k1 y) (b + 5) k5 z) (b + 6) k9 (gI (sI (sI h (b + 4) k1 y) (b + 5) k5 z) o 0)) (b + 7) k13 (gI (sI (sI (sI h (b + 4) k1 y) (b + 5) k5 z) (b + 6) k9 (gI (sI (sI h (b + 4) k1 y) (b + 5) k5 z) o 0)) o 1)) o 2)) o 3)) (b + 3) 8 ((gI (sI (sI (sI (sI (sI (sI h (b + 4) k1 y) (b + 5) k5 z) (b + 6) k9 (gI (sI (sI h (b + 4) k1 y) (b + 5) k5 z) o 0)) (b + 7) k13 (gI (sI (sI (sI h (b + 4) k1 y) (b + 5) k5 z) (b + 6) k9 (gI (sI (sI h (b + 4) k1 y) (b + 5) k5 z) o 0)) o 1)) (b + 8) k17 (gI (sI (sI (sI (sI h (b + 4) k1 y) (b + 5) k5 z) (b + 6) k9 (gI (sI (sI h (b + 4) k1 y) (b + 5) k5 z) o 0)) (b + 7) k13 (gI (sI (sI (sI h (b + 4) k1 y) (b + 5) k5 z) (b + 6) k9 (gI (sI (sI h (b + 4) k1 y) (b + 5) k5 z) o 0)) o 1)) o 2)) (b + 9) k21 (gI (sI (sI (sI (sI (sI h (b + 4) k1 y) (b + 5) k5 z) (b + 6) k9 (gI (sI (sI h (b + 4) k1 y) (b + 5) k5 z) o 0)) (b + 7) k13 (gI (sI (sI (sI h (b + 4) k1 y) (b + 5) k5 z) (b + 6) k9 (gI (sI (sI h (b + 4) k1 y) (b + 5) k5 z) o 0)) o 1)) (b + 8) k17 (gI (sI (sI (sI (sI h (b + 4) k1 y) (b + 5) k5 z) (b + 6) k9 (gI (sI (sI h (b + 4) k1 y) (b + 5) k5 z) o 0)) (b + 7) k13 (gI (sI (sI (sI h (b + 4) k1 y) (b + 5) k5 z) (b + 6) k9 (gI (sI (sI h (b + 4) k1 y) (b + 5) k5 z) o 0)) o 1)) o 2)) o 3)) (b + 3) 8) + 1))) : ∃ r h', Sp L xs 44 [.ref (b + 3), .ref o, .int y, .int z] h r h' ∧ Q r h' := by
  refine sp_ex (ls := [some (.ref (b + 3)), some (.ref o), some (.int y), some (.int z)]) rfl ?_
  refine e_ld (pc' := 1) i44_0 rfl rfl ?_
  refine e_get (w := .ref (b + 4)) (pc' := 4) i44_1 rfl (x_isB3 hb hw.1) (x_fvR (by decide +kernel) (hw.2 _ _ _ (SB_lk3_0 hb))) ?_
  refine e_ld (pc' := 5) i44_4 rfl rfl ?_
  refine e_get (w := .int (gI h (b + 3) 8)) (pc' := 8) i44_5 rfl (x_isB3 hb hw.1) rfl ?_
  refine e_ld (pc' := 9) i44_8 rfl rfl ?_
  obtain ⟨k1, e2, g3, H⟩ := H
  refine e_as (n := k1) (h' := sI h (b + 4) k1 y) (pc' := 10) i44_9 rfl (x_alE (a := 20) (SB_lt4 hb) hw.1 (SB_sh4 hb) (by decide) e2 g3 (by decide)) (x_clE e2 g3 (by decide)) (by rw [(show (SH (b + 4)).1 = 20 by rw [SB_sh4 hb])]; rfl) ?_
  have w5 : HW (sI h (b + 4) k1 y) := HW_sI hw
  refine e_ld (pc' := 11) i44_10 rfl rfl ?_
  refine e_get (w := .ref (b + 5)) (pc' := 14) i44_11 rfl (x_isB3 hb w5.1) (x_fvR (by decide +kernel) (w5.2 _ _ _ (SB_lk3_1 hb))) ?_
  refine e_ld (pc' := 15) i44_14 rfl rfl ?_
  refine e_get (w := .int (gI (sI h (b + 4) k1 y) (b + 3) 8)) (pc' := 18) i44_15 rfl (x_isB3 hb w5.1) rfl ?_
  refine e_ld (pc' := 19) i44_18 rfl rfl ?_
  obtain ⟨k5, e6, g7, H⟩ := H
  refine e_as (n := k5) (h' := sI (sI h (b + 4) k1 y) (b + 5) k5 z) (pc' := 20) i44_19 rfl (x_alE (a := 20) (SB_lt5 hb) w5.1 (SB_sh5 hb) (by decide) e6 g7 (by decide)) (x_clE e6 g7 (by decide)) (by rw [(show (SH (b + 5)).1 = 20 by rw [SB_sh5 hb])]; rfl) ?_
  have w10 : HW (sI (sI h (b + 4) k1 y) (b + 5) k5 z) := HW_sI w5
  refine e_ld (pc' := 21) i44_20 rfl rfl ?_
  refine e_get (w := .ref (b + 6)) (pc' := 24) i44_21 rfl (x_isB3 hb w10.1) (x_fvR (by decide +kernel) (w10.2 _ _ _ (SB_lk3_2 hb))) ?_
  refine e_ld (pc' := 25) i44_24 rfl rfl ?_
  refine e_get (w := .int (gI (sI (sI h (b + 4) k1 y) (b + 5) k5 z) (b + 3) 8)) (pc' := 28) i44_25 rfl (x_isB3 hb w10.1) rfl ?_
  refine e_ld (pc' := 29) i44_28 rfl rfl ?_
  refine e_get (w := .int (gI (sI (sI h (b + 4) k1 y) (b + 5) k5 z) o 0)) (pc' := 32) i44_29 rfl (x_isP ho w10.1) rfl ?_
  obtain ⟨k9, e10, g11, H⟩ := H
  refine e_as (n := k9) (h' := sI (sI (sI h (b + 4) k1 y) (b + 5) k5 z) (b + 6) k9 (gI (sI (sI h (b + 4) k1 y) (b + 5) k5 z) o 0)) (pc' := 33) i44_32 rfl (x_alE (a := 20) (SB_lt6 hb) w10.1 (SB_sh6 hb) (by decide) e10 g11 (by decide)) (x_clE e10 g11 (by decide)) (by rw [(show (SH (b + 6)).1 = 20 by rw [SB_sh6 hb])]; rfl) ?_
  have w15 : HW (sI (sI (sI h (b + 4) k1 y) (b + 5) k5 z) (b + 6) k9 (gI (sI (sI h (b + 4) k1 y) (b + 5) k5 z) o 0)) := HW_sI w10
  refine e_ld (pc' := 34) i44_33 rfl rfl ?_
  refine e_get (w := .ref (b + 7)) (pc' := 37) i44_34 rfl (x_isB3 hb w15.1) (x_fvR (by decide +kernel) (w15.2 _ _ _ (SB_lk3_3 hb))) ?_
  refine e_ld (pc' := 38) i44_37 rfl rfl ?_
  refine e_get (w := .int (gI (sI (sI (sI h (b + 4) k1 y) (b + 5) k5 z) (b + 6) k9 (gI (sI (sI h (b + 4) k1 y) (b + 5) k5 z) o 0)) (b + 3) 8)) (pc' := 41) i44_38 rfl (x_isB3 hb w15.1) rfl ?_
  refine e_ld (pc' := 42) i44_41 rfl rfl ?_
  refine e_get (w := .int (gI (sI (sI (sI h (b + 4) k1 y) (b + 5) k5 z) (b + 6) k9 (gI (sI (sI h (b + 4) k1 y) (b + 5) k5 z) o 0)) o 1)) (pc' := 45) i44_42 rfl (x_isP ho w15.1) rfl ?_
  obtain ⟨k13, e14, g15, H⟩ := H
  refine e_as (n := k13) (h' := sI (sI (sI (sI h (b + 4) k1 y) (b + 5) k5 z) (b + 6) k9 (gI (sI (sI h (b + 4) k1 y) (b + 5) k5 z) o 0)) (b + 7) k13 (gI (sI (sI (sI h (b + 4) k1 y) (b + 5) k5 z) (b + 6) k9 (gI (sI (sI h (b + 4) k1 y) (b + 5) k5 z) o 0)) o 1)) (pc' := 46) i44_45 rfl (x_alE (a := 20) (SB_lt7 hb) w15.1 (SB_sh7 hb) (by decide) e14 g15 (by decide)) (x_clE e14 g15 (by decide)) (by rw [(show (SH (b + 7)).1 = 20 by rw [SB_sh7 hb])]; rfl) ?_
  have w20 : HW (sI (sI (sI (sI h (b + 4) k1 y) (b + 5) k5 z) (b + 6) k9 (gI (sI (sI h (b + 4) k1 y) (b + 5) k5 z) o 0)) (b + 7) k13 (gI (sI (sI (sI h (b + 4) k1 y) (b + 5) k5 z) (b + 6) k9 (gI (sI (sI h (b + 4) k1 y) (b + 5) k5 z) o 0)) o 1)) := HW_sI w15
  refine e_ld (pc' := 47) i44_46 rfl rfl ?_
  refine e_get (w := .ref (b + 8)) (pc' := 50) i44_47 rfl (x_isB3 hb w20.1) (x_fvR (by decide +kernel) (w20.2 _ _ _ (SB_lk3_4 hb))) ?_
  refine e_ld (pc' := 51) i44_50 rfl rfl ?_
  refine e_get (w := .int (gI (sI (sI (sI (sI h (b + 4) k1 y) (b + 5) k5 z) (b + 6) k9 (gI (sI (sI h (b + 4) k1 y) (b + 5) k5 z) o 0)) (b + 7) k13 (gI (sI (sI (sI h (b + 4) k1 y) (b + 5) k5 z) (b + 6) k9 (gI (sI (sI h (b + 4) k1 y) (b + 5) k5 z) o 0)) o 1)) (b + 3) 8)) (pc' := 54) i44_51 rfl (x_isB3 hb w20.1) rfl ?_
  refine e_ld (pc' := 55) i44_54 rfl rfl ?_
  refine e_get (w := .int (gI (sI (sI (sI (sI h (b + 4) k1 y) (b + 5) k5 z) (b + 6) k9 (gI (sI (sI h (b + 4) k1 y) (b + 5) k5 z) o 0)) (b + 7) k13 (gI (sI (sI (sI h (b + 4) k1 y) (b + 5) k5 z) (b + 6) k9 (gI (sI (sI h (b + 4) k1 y) (b + 5) k5 z) o 0)) o 1)) o 2)) (pc' := 58) i44_55 rfl (x_isP ho w20.1) rfl ?_
  obtain ⟨k17, e18, g19, H⟩ := H
  refine e_as (n := k17) (h' := sI (sI (sI (sI (sI h (b + 4) k1 y) (b + 5) k5 z) (b + 6) k9 (gI (sI (sI h (b + 4) k1 y) (b + 5) k5 z) o 0)) (b + 7) k13 (gI (sI (sI (sI h (b + 4) k1 y) (b + 5) k5 z) (b + 6) k9 (gI (sI (sI h (b + 4) k1 y) (b + 5) k5 z) o 0)) o 1)) (b + 8) k17 (gI (sI (sI (sI (sI h (b + 4) k1 y) (b + 5) k5 z) (b + 6) k9 (gI (sI (sI h (b + 4) k1 y) (b + 5) k5 z) o 0)) (b + 7) k13 (gI (sI (sI (sI h (b + 4) k1 y) (b + 5) k5 z) (b + 6) k9 (gI (sI (sI h (b + 4) k1 y) (b + 5) k5 z) o 0)) o 1)) o 2)) (pc' := 59) i44_58 rfl (x_alE (a := 20) (SB_lt8 hb) w20.1 (SB_sh8 hb) (by decide) e18 g19 (by decide)) (x_clE e18 g19 (by decide)) (by rw [(show (SH (b + 8)).1 = 20 by rw [SB_sh8 hb])]; rfl) ?_
  have w25 : HW (sI (sI (sI (sI (sI h (b + 4) k1 y) (b + 5) k5 z) (b + 6) k9 (gI (sI (sI h (b + 4) k1 y) (b + 5) k5 z) o 0)) (b + 7) k13 (gI (sI (sI (sI h (b + 4) k1 y) (b + 5) k5 z) (b + 6) k9 (gI (sI (sI h (b + 4) k1 y) (b + 5) k5 z) o 0)) o 1)) (b + 8) k17 (gI (sI (sI (sI (sI h (b + 4) k1 y) (b + 5) k5 z) (b + 6) k9 (gI (sI (sI h (b + 4) k1 y) (b + 5) k5 z) o 0)) (b + 7) k13 (gI (sI (sI (sI h (b + 4) k1 y) (b + 5) k5 z) (b + 6) k9 (gI (sI (sI h (b + 4) k1 y) (b + 5) k5 z) o 0)) o 1)) o 2)) := HW_sI w20
  refine e_ld (pc' := 60) i44_59 rfl rfl ?_
  refine e_get (w := .ref (b + 9)) (pc' := 63) i44_60 rfl (x_isB3 hb w25.1) (x_fvR (by decide +kernel) (w25.2 _ _ _ (SB_lk3_5 hb))) ?_
  refine e_ld (pc' := 64) i44_63 rfl rfl ?_
  refine e_get (w := .int (gI (sI (sI (sI (sI (sI h (b + 4) k1 y) (b + 5) k5 z) (b + 6) k9 (gI (sI (sI h (b + 4) k1 y) (b + 5) k5 z) o 0)) (b + 7) k13 (gI (sI (sI (sI h (b + 4) k1 y) (b + 5) k5 z) (b + 6) k9 (gI (sI (sI h (b + 4) k1 y) (b + 5) k5 z) o 0)) o 1)) (b + 8) k17 (gI (sI (sI (sI (sI h (b + 4) k1 y) (b + 5) k5 z) (b + 6) k9 (gI (sI (sI h (b + 4) k1 y) (b + 5) k5 z) o 0)) (b + 7) k13 (gI (sI (sI (sI h (b + 4) k1 y) (b + 5) k5 z) (b + 6) k9 (gI (sI (sI h (b + 4) k1 y) (b + 5) k5 z) o 0)) o 1)) o 2)) (b + 3) 8)) (pc' := 67) i44_64 rfl (x_isB3 hb w25.1) rfl ?_
  refine e_ld (pc' := 68) i44_67 rfl rfl ?_
  refine e_get (w := .int (gI (sI (sI (sI (sI (sI h (b + 4) k1 y) (b + 5) k5 z) (b + 6) k9 (gI (sI (sI h (b + 4) k1 y) (b + 5) k5 z) o 0)) (b + 7) k13 (gI (sI (sI (sI h (b + 4) k1 y) (b + 5) k5 z) (b + 6) k9 (gI (sI (sI h (b + 4) k1 y) (b + 5) k5 z) o 0)) o 1)) (b + 8) k17 (gI (sI (sI (sI (sI h (b + 4) k1 y) (b + 5) k5 z) (b + 6) k9 (gI (sI (sI h (b + 4) k1 y) (b + 5) k5 z) o 0)) (b + 7) k13 (gI (sI (sI (sI h (b + 4) k1 y) (b + 5) k5 z) (b + 6) k9 (gI (sI (sI h (b + 4) k1 y) (b + 5) k5 z) o 0)) o 1)) o 2)) o 3)) (pc' := 71) i44_68 rfl (x_isP ho w25.1) rfl ?_
  obtain ⟨k21, e22, g23, H⟩ := H
  refine e_as (n := k21) (h' := sI (sI (sI (sI (sI (sI h (b + 4) k1 y) (b + 5) k5 z) (b + 6) k9 (gI (sI (sI h (b + 4) k1 y) (b + 5) k5 z) o 0)) (b + 7) k13 (gI (sI (sI (sI h (b + 4) k1 y) (b + 5) k5 z) (b + 6) k9 (gI (sI (sI h (b + 4) k1 y) (b + 5) k5 z) o 0)) o 1)) (b + 8) k17 (gI (sI (sI (sI (sI h (b + 4) k1 y) (b + 5) k5 z) (b + 6) k9 (gI (sI (sI h (b + 4) k1 y) (b + 5) k5 z) o 0)) (b + 7) k13 (gI (sI (sI (sI h (b + 4) k1 y) (b + 5) k5 z) (b + 6) k9 (gI (sI (sI h (b + 4) k1 y) (b + 5) k5 z) o 0)) o 1)) o 2)) (b + 9) k21 (gI (sI (sI (sI (sI (sI h (b + 4) k1 y) (b + 5) k5 z) (b + 6) k9 (gI (sI (sI h (b + 4) k1 y) (b + 5) k5 z) o 0)) (b + 7) k13 (gI (sI (sI (sI h (b + 4) k1 y) (b + 5) k5 z) (b + 6) k9 (gI (sI (sI h (b + 4) k1 y) (b + 5) k5 z) o 0)) o 1)) (b + 8) k17 (gI (sI (sI (sI (sI h (b + 4) k1 y) (b + 5) k5 z) (b + 6) k9 (gI (sI (sI h (b + 4) k1 y) (b + 5) k5 z) o 0)) (b + 7) k13 (gI (sI (sI (sI h (b + 4) k1 y) (b + 5) k5 z) (b + 6) k9 (gI (sI (sI h (b + 4) k1 y) (b + 5) k5 z) o 0)) o 1)) o 2)) o 3)) (pc' := 72) i44_71 rfl (x_alE (a := 20) (SB_lt9 hb) w25.1 (SB_sh9 hb) (by decide) e22 g23 (by decide)) (x_clE e22 g23 (by decide)) (by rw [(show (SH (b + 9)).1 = 20 by rw [SB_sh9 hb])]; rfl) ?_
  have w30 : HW (sI (sI (sI (sI (sI (sI h (b + 4) k1 y) (b + 5) k5 z) (b + 6) k9 (gI (sI (sI h (b + 4) k1 y) (b + 5) k5 z) o 0)) (b + 7) k13 (gI (sI (sI (sI h (b + 4) k1 y) (b + 5) k5 z) (b + 6) k9 (gI (sI (sI h (b + 4) k1 y) (b + 5) k5 z) o 0)) o 1)) (b + 8) k17 (gI (sI (sI (sI (sI h (b + 4) k1 y) (b + 5) k5 z) (b + 6) k9 (gI (sI (sI h (b + 4) k1 y) (b + 5) k5 z) o 0)) (b + 7) k13 (gI (sI (sI (sI h (b + 4) k1 y) (b + 5) k5 z) (b + 6) k9 (gI (sI (sI h (b + 4) k1 y) (b + 5) k5 z) o 0)) o 1)) o 2)) (b + 9) k21 (gI (sI (sI (sI (sI (sI h (b + 4) k1 y) (b + 5) k5 z) (b + 6) k9 (gI (sI (sI h (b + 4) k1 y) (b + 5) k5 z) o 0)) (b + 7) k13 (gI (sI (sI (sI h (b + 4) k1 y) (b + 5) k5 z) (b + 6) k9 (gI (sI (sI h (b + 4) k1 y) (b + 5) k5 z) o 0)) o 1)) (b + 8) k17 (gI (sI (sI (sI (sI h (b + 4) k1 y) (b + 5) k5 z) (b + 6) k9 (gI (sI (sI h (b + 4) k1 y) (b + 5) k5 z) o 0)) (b + 7) k13 (gI (sI (sI (sI h (b + 4) k1 y) (b + 5) k5 z) (b + 6) k9 (gI (sI (sI h (b + 4) k1 y) (b + 5) k5 z) o 0)) o 1)) o 2)) o 3)) := HW_sI w25
  refine e_ld (pc' := 73) i44_72 rfl rfl ?_
  refine e_stk (pc' := 74) i44_73 rfl rfl ?_
  refine e_get (w := .int (gI (sI (sI (sI (sI (sI (sI h (b + 4) k1 y) (b + 5) k5 z) (b + 6) k9 (gI (sI (sI h (b + 4) k1 y) (b + 5) k5 z) o 0)) (b + 7) k13 (gI (sI (sI (sI h (b + 4) k1 y) (b + 5) k5 z) (b + 6) k9 (gI (sI (sI h (b + 4) k1 y) (b + 5) k5 z) o 0)) o 1)) (b + 8) k17 (gI (sI (sI (sI (sI h (b + 4) k1 y) (b + 5) k5 z) (b + 6) k9 (gI (sI (sI h (b + 4) k1 y) (b + 5) k5 z) o 0)) (b + 7) k13 (gI (sI (sI (sI h (b + 4) k1 y) (b + 5) k5 z) (b + 6) k9 (gI (sI (sI h (b + 4) k1 y) (b + 5) k5 z) o 0)) o 1)) o 2)) (b + 9) k21 (gI (sI (sI (sI (sI (sI h (b + 4) k1 y) (b + 5) k5 z) (b + 6) k9 (gI (sI (sI h (b + 4) k1 y) (b + 5) k5 z) o 0)) (b + 7) k13 (gI (sI (sI (sI h (b + 4) k1 y) (b + 5) k5 z) (b + 6) k9 (gI (sI (sI h (b + 4) k1 y) (b + 5) k5 z) o 0)) o 1)) (b + 8) k17 (gI (sI (sI (sI (sI h (b + 4) k1 y) (b + 5) k5 z) (b + 6) k9 (gI (sI (sI h (b + 4) k1 y) (b + 5) k5 z) o 0)) (b + 7) k13 (gI (sI (sI (sI h (b + 4) k1 y) (b + 5) k5 z) (b + 6) k9 (gI (sI (sI h (b + 4) k1 y) (b + 5) k5 z) o 0)) o 1)) o 2)) o 3)) (b + 3) 8)) (pc' := 77) i44_74 rfl (x_isB3 hb w30.1) rfl ?_
  refine e_cn (pc' := 78) i44_77 rfl ?_
  refine e_ib (z := (gI (sI (sI (sI (sI (sI (sI h (b + 4) k1 y) (b + 5) k5 z) (b + 6) k9 (gI (sI (sI h (b + 4) k1 y) (b + 5) k5 z) o 0)) (b + 7) k13 (gI (sI (sI (sI h (b + 4) k1 y) (b + 5) k5 z) (b + 6) k9 (gI (sI (sI h (b + 4) k1 y) (b + 5) k5 z) o 0)) o 1)) (b + 8) k17 (gI (sI (sI (sI (sI h (b + 4) k1 y) (b + 5) k5 z) (b + 6) k9 (gI (sI (sI h (b + 4) k1 y) (b + 5) k5 z) o 0)) (b + 7) k13 (gI (sI (sI (sI h (b + 4) k1 y) (b + 5) k5 z) (b + 6) k9 (gI (sI (sI h (b + 4) k1 y) (b + 5) k5 z) o 0)) o 1)) o 2)) (b + 9) k21 (gI (sI (sI (sI (sI (sI h (b + 4) k1 y) (b + 5) k5 z) (b + 6) k9 (gI (sI (sI h (b + 4) k1 y) (b + 5) k5 z) o 0)) (b + 7) k13 (gI (sI (sI (sI h (b + 4) k1 y) (b + 5) k5 z) (b + 6) k9 (gI (sI (sI h (b + 4) k1 y) (b + 5) k5 z) o 0)) o 1)) (b + 8) k17 (gI (sI (sI (sI (sI h (b + 4) k1 y) (b + 5) k5 z) (b + 6) k9 (gI (sI (sI h (b + 4) k1 y) (b + 5) k5 z) o 0)) (b + 7) k13 (gI (sI (sI (sI h (b + 4) k1 y) (b + 5) k5 z) (b + 6) k9 (gI (sI (sI h (b + 4) k1 y) (b + 5) k5 z) o 0)) o 1)) o 2)) o 3)) (b + 3) 8) + 1) (pc' := 79) i44_78 rfl rfl ?_
  refine e_put (h' := sI (sI (sI (sI (sI (sI (sI h (b + 4) k1 y) (b + 5) k5 z) (b + 6) k9 (gI (sI (sI h (b + 4) k1 y) (b + 5) k5 z) o 0)) (b + 7) k13 (gI (sI (sI (sI h (b + 4) k1 y) (b + 5) k5 z) (b + 6) k9 (gI (sI (sI h (b + 4) k1 y) (b + 5) k5 z) o 0)) o 1)) (b + 8) k17 (gI (sI (sI (sI (sI h (b + 4) k1 y) (b + 5) k5 z) (b + 6) k9 (gI (sI (sI h (b + 4) k1 y) (b + 5) k5 z) o 0)) (b + 7) k13 (gI (sI (sI (sI h (b + 4) k1 y) (b + 5) k5 z) (b + 6) k9 (gI (sI (sI h (b + 4) k1 y) (b + 5) k5 z) o 0)) o 1)) o 2)) (b + 9) k21 (gI (sI (sI (sI (sI (sI h (b + 4) k1 y) (b + 5) k5 z) (b + 6) k9 (gI (sI (sI h (b + 4) k1 y) (b + 5) k5 z) o 0)) (b + 7) k13 (gI (sI (sI (sI h (b + 4) k1 y) (b + 5) k5 z) (b + 6) k9 (gI (sI (sI h (b + 4) k1 y) (b + 5) k5 z) o 0)) o 1)) (b + 8) k17 (gI (sI (sI (sI (sI h (b + 4) k1 y) (b + 5) k5 z) (b + 6) k9 (gI (sI (sI h (b + 4) k1 y) (b + 5) k5 z) o 0)) (b + 7) k13 (gI (sI (sI (sI h (b + 4) k1 y) (b + 5) k5 z) (b + 6) k9 (gI (sI (sI h (b + 4) k1 y) (b + 5) k5 z) o 0)) o 1)) o 2)) o 3)) (b + 3) 8 ((gI (sI (sI (sI (sI (sI (sI h (b + 4) k1 y) (b + 5) k5 z) (b + 6) k9 (gI (sI (sI h (b + 4) k1 y) (b + 5) k5 z) o 0)) (b + 7) k13 (gI (sI (sI (sI h (b + 4) k1 y) (b + 5) k5 z) (b + 6) k9 (gI (sI (sI h (b + 4) k1 y) (b + 5) k5 z) o 0)) o 1)) (b + 8) k17 (gI (sI (sI (sI (sI h (b + 4) k1 y) (b + 5) k5 z) (b + 6) k9 (gI (sI (sI h (b + 4) k1 y) (b + 5) k5 z) o 0)) (b + 7) k13 (gI (sI (sI (sI h (b + 4) k1 y) (b + 5) k5 z) (b + 6) k9 (gI (sI (sI h (b + 4) k1 y) (b + 5) k5 z) o 0)) o 1)) o 2)) (b + 9) k21 (gI (sI (sI (sI (sI (sI h (b + 4) k1 y) (b + 5) k5 z) (b + 6) k9 (gI (sI (sI h (b + 4) k1 y) (b + 5) k5 z) o 0)) (b + 7) k13 (gI (sI (sI (sI h (b + 4) k1 y) (b + 5) k5 z) (b + 6) k9 (gI (sI (sI h (b + 4) k1 y) (b + 5) k5 z) o 0)) o 1)) (b + 8) k17 (gI (sI (sI (sI (sI h (b + 4) k1 y) (b + 5) k5 z) (b + 6) k9 (gI (sI (sI h (b + 4) k1 y) (b + 5) k5 z) o 0)) (b + 7) k13 (gI (sI (sI (sI h (b + 4) k1 y) (b + 5) k5 z) (b + 6) k9 (gI (sI (sI h (b + 4) k1 y) (b + 5) k5 z) o 0)) o 1)) o 2)) o 3)) (b + 3) 8) + 1)) (pc' := 82) i44_79 rfl (x_isB3 hb w30.1) rfl ?_
  have w32 : HW (sI (sI (sI (sI (sI (sI (sI h (b + 4) k1 y) (b + 5) k5 z) (b + 6) k9 (gI (sI (sI h (b + 4) k1 y) (b + 5) k5 z) o 0)) (b + 7) k13 (gI (sI (sI (sI h (b + 4) k1 y) (b + 5) k5 z) (b + 6) k9 (gI (sI (sI h (b + 4) k1 y) (b + 5) k5 z) o 0)) o 1)) (b + 8) k17 (gI (sI (sI (sI (sI h (b + 4) k1 y) (b + 5) k5 z) (b + 6) k9 (gI (sI (sI h (b + 4) k1 y) (b + 5) k5 z) o 0)) (b + 7) k13 (gI (sI (sI (sI h (b + 4) k1 y) (b + 5) k5 z) (b + 6) k9 (gI (sI (sI h (b + 4) k1 y) (b + 5) k5 z) o 0)) o 1)) o 2)) (b + 9) k21 (gI (sI (sI (sI (sI (sI h (b + 4) k1 y) (b + 5) k5 z) (b + 6) k9 (gI (sI (sI h (b + 4) k1 y) (b + 5) k5 z) o 0)) (b + 7) k13 (gI (sI (sI (sI h (b + 4) k1 y) (b + 5) k5 z) (b + 6) k9 (gI (sI (sI h (b + 4) k1 y) (b + 5) k5 z) o 0)) o 1)) (b + 8) k17 (gI (sI (sI (sI (sI h (b + 4) k1 y) (b + 5) k5 z) (b + 6) k9 (gI (sI (sI h (b + 4) k1 y) (b + 5) k5 z) o 0)) (b + 7) k13 (gI (sI (sI (sI h (b + 4) k1 y) (b + 5) k5 z) (b + 6) k9 (gI (sI (sI h (b + 4) k1 y) (b + 5) k5 z) o 0)) o 1)) o 2)) o 3)) (b + 3) 8 ((gI (sI (sI (sI (sI (sI (sI h (b + 4) k1 y) (b + 5) k5 z) (b + 6) k9 (gI (sI (sI h (b + 4) k1 y) (b + 5) k5 z) o 0)) (b + 7) k13 (gI (sI (sI (sI h (b + 4) k1 y) (b + 5) k5 z) (b + 6) k9 (gI (sI (sI h (b + 4) k1 y) (b + 5) k5 z) o 0)) o 1)) (b + 8) k17 (gI (sI (sI (sI (sI h (b + 4) k1 y) (b + 5) k5 z) (b + 6) k9 (gI (sI (sI h (b + 4) k1 y) (b + 5) k5 z) o 0)) (b + 7) k13 (gI (sI (sI (sI h (b + 4) k1 y) (b + 5) k5 z) (b + 6) k9 (gI (sI (sI h (b + 4) k1 y) (b + 5) k5 z) o 0)) o 1)) o 2)) (b + 9) k21 (gI (sI (sI (sI (sI (sI h (b + 4) k1 y) (b + 5) k5 z) (b + 6) k9 (gI (sI (sI h (b + 4) k1 y) (b + 5) k5 z) o 0)) (b + 7) k13 (gI (sI (sI (sI h (b + 4) k1 y) (b + 5) k5 z) (b + 6) k9 (gI (sI (sI h (b + 4) k1 y) (b + 5) k5 z) o 0)) o 1)) (b + 8) k17 (gI (sI (sI (sI (sI h (b + 4) k1 y) (b + 5) k5 z) (b + 6) k9 (gI (sI (sI h (b + 4) k1 y) (b + 5) k5 z) o 0)) (b + 7) k13 (gI (sI (sI (sI h (b + 4) k1 y) (b + 5) k5 z) (b + 6) k9 (gI (sI (sI h (b + 4) k1 y) (b + 5) k5 z) o 0)) o 1)) o 2)) o 3)) (b + 3) 8) + 1)) := HW_sI w30
  refine e_rt i44_82 rfl ?_
  exact H
-- FloorTurn$Piece.widthAt(I)I
set_option maxHeartbeats 8000000 in
set_option maxRecDepth 100000 in
theorem v45 {L : Nat} {xs : Nat → Int32} {Q : Option Value → Hp → Prop} {h : Hp} {b : Nat} {x : Int32} (hw : HW h) (hb : SB b)
  (H : Q (some (.int (if (x &&& 1) = 0 then (gI h (b + 3) 6) else (gI h (b + 3) 7)))) h) : ∃ r h', Sp L xs 45 [.ref (b + 3), .int x] h r h' ∧ Q r h' := by
  refine sp_ex (ls := [some (.ref (b + 3)), some (.int x)]) rfl ?_
  refine e_ld (pc' := 1) i45_0 rfl rfl ?_
  refine e_cn (pc' := 2) i45_1 rfl ?_
  refine e_ib (z := x &&& 1) (pc' := 3) i45_2 rfl rfl ?_
  refine e_reg (pc' := 17) (ls' := [some (.ref (b + 3)), some (.int x)]) (st' := [.int (if (x &&& 1) = 0 then (gI h (b + 3) 6) else (gI h (b + 3) 7))]) (fun kj1 => ?_) ?_
  · skip
    refine e_if (pc' := 6) i45_3 rfl (fun c2 => ?_) (fun c2 => ?_)
    · have d3 : ¬ ((x &&& 1) = 0) := (of_decide_eq_true c2)
      refine e_ld (pc' := 14) i45_13 rfl rfl ?_
      refine e_get (w := .int (gI h (b + 3) 7)) (pc' := 17) i45_14 rfl (x_isB3 hb hw.1) rfl ?_
      exact (by simp only [if_neg d3] at kj1 ⊢; exact kj1)
    · have d4 : (x &&& 1) = 0 := (Decidable.not_not.mp (of_decide_eq_false c2))
      refine e_ld (pc' := 7) i45_6 rfl rfl ?_
      refine e_get (w := .int (gI h (b + 3) 6)) (pc' := 10) i45_7 rfl (x_isB3 hb hw.1) rfl ?_
      refine e_go i45_10 ?_
      exact (by simp only [if_pos d4] at kj1 ⊢; exact kj1)
  refine e_rt i45_17 rfl ?_
  exact H
-- FloorTurn$Piece.heightAt(I)I
set_option maxHeartbeats 8000000 in
set_option maxRecDepth 100000 in
theorem v46 {L : Nat} {xs : Nat → Int32} {Q : Option Value → Hp → Prop} {h : Hp} {b : Nat} {x : Int32} (hw : HW h) (hb : SB b)
  (H : Q (some (.int (if (x &&& 1) = 0 then (gI h (b + 3) 7) else (gI h (b + 3) 6)))) h) : ∃ r h', Sp L xs 46 [.ref (b + 3), .int x] h r h' ∧ Q r h' := by
  refine sp_ex (ls := [some (.ref (b + 3)), some (.int x)]) rfl ?_
  refine e_ld (pc' := 1) i46_0 rfl rfl ?_
  refine e_cn (pc' := 2) i46_1 rfl ?_
  refine e_ib (z := x &&& 1) (pc' := 3) i46_2 rfl rfl ?_
  refine e_reg (pc' := 17) (ls' := [some (.ref (b + 3)), some (.int x)]) (st' := [.int (if (x &&& 1) = 0 then (gI h (b + 3) 7) else (gI h (b + 3) 6))]) (fun kj1 => ?_) ?_
  · skip
    refine e_if (pc' := 6) i46_3 rfl (fun c2 => ?_) (fun c2 => ?_)
    · have d3 : ¬ ((x &&& 1) = 0) := (of_decide_eq_true c2)
      refine e_ld (pc' := 14) i46_13 rfl rfl ?_
      refine e_get (w := .int (gI h (b + 3) 6)) (pc' := 17) i46_14 rfl (x_isB3 hb hw.1) rfl ?_
      exact (by simp only [if_neg d3] at kj1 ⊢; exact kj1)
    · have d4 : (x &&& 1) = 0 := (Decidable.not_not.mp (of_decide_eq_false c2))
      refine e_ld (pc' := 7) i46_6 rfl rfl ?_
      refine e_get (w := .int (gI h (b + 3) 7)) (pc' := 10) i46_7 rfl (x_isB3 hb hw.1) rfl ?_
      refine e_go i46_10 ?_
      exact (by simp only [if_pos d4] at kj1 ⊢; exact kj1)
  refine e_rt i46_17 rfl ?_
  exact H
