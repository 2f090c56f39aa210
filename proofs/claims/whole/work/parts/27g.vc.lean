/-! Conditions of methods (made by wip/whole/vcmake.py). -/
-- FloorTurn.refusalOfRow(I)I
set_option maxHeartbeats 8000000 in
set_option maxRecDepth 100000 in
theorem v110 {L : Nat} {xs : Nat → Int32} {Q : Option Value → Hp → Prop} {h : Hp} {x : Int32} (hw : HW h) 
  (H : (((x_isShelf x) = true) → (∃ k3 : Nat, x = nI k3 ∧ k3 < 8 ∧ (((gI h (155 + 10 * k3) 2) = 2) → (Q (some (.int (-2))) h)) ∧ (¬ ((gI h (155 + 10 * k3) 2) = 2) → (Q (some (.int (if (gI h (155 + 10 * k3) 2) = 0 then ((-3)) else (0)))) h)))) ∧ (¬ ((x_isShelf x) = true) → (Q (some (.int (-1))) h))) : ∃ r h', Sp L xs 110 [.ref 0, .int x] h r h' ∧ Q r h' := by
  refine sp_ex (ls := [some (.ref 0), some (.int x)]) rfl ?_
  refine e_ld (pc' := 1) i110_0 rfl rfl ?_
  refine e_cI (w := .int (b2i (x_isShelf x))) (As := [.int x]) (rest := []) (pc' := 4) i110_1 rfl rfl rfl rfl rfl m116 ?_
  refine e_b1 (pc' := 7) i110_4 rfl (fun c1 => ?_) (fun c1 => ?_)
  · have d2 : (x_isShelf x) = true := c1
    replace H := H.1 d2
    refine e_ld (pc' := 10) i110_9 rfl rfl ?_
    refine e_get (w := .ref 154) (pc' := 13) i110_10 rfl (x_isC (by decide) hw.1 sh0) (x_fvR (by decide +kernel) (hw.2 0 3 154 lk0_3)) ?_
    refine e_ld (pc' := 14) i110_13 rfl rfl ?_
    obtain ⟨k3, e4, g5, H⟩ := H
    refine e_al (n := k3) (w := .ref (155 + 10 * k3)) (pc' := 15) i110_14 rfl (x_alE (a := 23) (by decide) hw.1 sh154 (by decide) e4 g5 (by decide)) (x_clE e4 g5 (by decide)) (x_agR (hw.2 _ _ _ (LK_s g5))) ?_
    refine e_get (w := .int (gI h (155 + 10 * k3) 2)) (pc' := 18) i110_15 rfl (x_isB0 (SB_of g5) hw.1) rfl ?_
    refine e_cn (pc' := 19) i110_18 rfl ?_
    refine e_ic (pc' := 22) i110_19 rfl (fun c6 => ?_) (fun c6 => ?_)
    · have d7 : ¬ ((gI h (155 + 10 * k3) 2) = 2) := (of_decide_eq_true c6)
      replace H := H.2 d7
      refine e_ld (pc' := 26) i110_25 rfl rfl ?_
      refine e_get (w := .ref 154) (pc' := 29) i110_26 rfl (x_isC (by decide) hw.1 sh0) (x_fvR (by decide +kernel) (hw.2 0 3 154 lk0_3)) ?_
      refine e_ld (pc' := 30) i110_29 rfl rfl ?_
      refine e_al (n := k3) (w := .ref (155 + 10 * k3)) (pc' := 31) i110_30 rfl (x_alE (a := 23) (by decide) hw.1 sh154 (by decide) e4 g5 (by decide)) (x_clE e4 g5 (by decide)) (x_agR (hw.2 _ _ _ (LK_s g5))) ?_
      refine e_get (w := .int (gI h (155 + 10 * k3) 2)) (pc' := 34) i110_31 rfl (x_isB0 (SB_of g5) hw.1) rfl ?_
      refine e_reg (pc' := 43) (ls' := [some (.ref 0), some (.int x)]) (st' := [.int (if (gI h (155 + 10 * k3) 2) = 0 then ((-3)) else (0))]) (fun kj8 => ?_) ?_
      · skip
        refine e_if (pc' := 37) i110_34 rfl (fun c9 => ?_) (fun c9 => ?_)
        · have d10 : ¬ ((gI h (155 + 10 * k3) 2) = 0) := (of_decide_eq_true c9)
          refine e_cn (pc' := 43) i110_42 rfl ?_
          exact (by simp only [if_neg d10] at kj8 ⊢; exact kj8)
        · have d11 : (gI h (155 + 10 * k3) 2) = 0 := (Decidable.not_not.mp (of_decide_eq_false c9))
          refine e_cn (pc' := 39) i110_37 rfl ?_
          refine e_go i110_39 ?_
          exact (by simp only [if_pos d11] at kj8 ⊢; exact kj8)
      refine e_rt i110_43 rfl ?_
      exact H
    · have d12 : (gI h (155 + 10 * k3) 2) = 2 := (Decidable.not_not.mp (of_decide_eq_false c6))
      replace H := H.1 d12
      refine e_cn (pc' := 24) i110_22 rfl ?_
      refine e_rt i110_24 rfl ?_
      exact H
  · have d13 : ¬ ((x_isShelf x) = true) := (show ¬ (x_isShelf x) = true by rw [c1]; decide)
    replace H := H.2 d13
    refine e_cn (pc' := 8) i110_7 rfl ?_
    refine e_rt i110_8 rfl ?_
    exact H
-- FloorTurn.refusalOfPiece(I)I
set_option maxHeartbeats 8000000 in
set_option maxRecDepth 100000 in
theorem v111 {L : Nat} {xs : Nat → Int32} {Q : Option Value → Hp → Prop} {h : Hp} {x : Int32} (hw : HW h) 
  (H : (((x_isShelf x) = true) → (∃ k3 : Nat, x = nI k3 ∧ k3 < 8 ∧ (((gI h (155 + 10 * k3) 2) = 1) → (Q (some (.int (-2))) h)) ∧ (¬ ((gI h (155 + 10 * k3) 2) = 1) → (Q (some (.int (if (gI h (155 + 10 * k3) 2) = 0 then ((-3)) else (0)))) h)))) ∧ (¬ ((x_isShelf x) = true) → (Q (some (.int (-1))) h))) : ∃ r h', Sp L xs 111 [.ref 0, .int x] h r h' ∧ Q r h' := by
  refine sp_ex (ls := [some (.ref 0), some (.int x)]) rfl ?_
  refine e_ld (pc' := 1) i111_0 rfl rfl ?_
  refine e_cI (w := .int (b2i (x_isShelf x))) (As := [.int x]) (rest := []) (pc' := 4) i111_1 rfl rfl rfl rfl rfl m116 ?_
  refine e_b1 (pc' := 7) i111_4 rfl (fun c1 => ?_) (fun c1 => ?_)
  · have d2 : (x_isShelf x) = true := c1
    replace H := H.1 d2
    refine e_ld (pc' := 10) i111_9 rfl rfl ?_
    refine e_get (w := .ref 154) (pc' := 13) i111_10 rfl (x_isC (by decide) hw.1 sh0) (x_fvR (by decide +kernel) (hw.2 0 3 154 lk0_3)) ?_
    refine e_ld (pc' := 14) i111_13 rfl rfl ?_
    obtain ⟨k3, e4, g5, H⟩ := H
    refine e_al (n := k3) (w := .ref (155 + 10 * k3)) (pc' := 15) i111_14 rfl (x_alE (a := 23) (by decide) hw.1 sh154 (by decide) e4 g5 (by decide)) (x_clE e4 g5 (by decide)) (x_agR (hw.2 _ _ _ (LK_s g5))) ?_
    refine e_get (w := .int (gI h (155 + 10 * k3) 2)) (pc' := 18) i111_15 rfl (x_isB0 (SB_of g5) hw.1) rfl ?_
    refine e_cn (pc' := 19) i111_18 rfl ?_
    refine e_ic (pc' := 22) i111_19 rfl (fun c6 => ?_) (fun c6 => ?_)
    · have d7 : ¬ ((gI h (155 + 10 * k3) 2) = 1) := (of_decide_eq_true c6)
      replace H := H.2 d7
      refine e_ld (pc' := 26) i111_25 rfl rfl ?_
      refine e_get (w := .ref 154) (pc' := 29) i111_26 rfl (x_isC (by decide) hw.1 sh0) (x_fvR (by decide +kernel) (hw.2 0 3 154 lk0_3)) ?_
      refine e_ld (pc' := 30) i111_29 rfl rfl ?_
      refine e_al (n := k3) (w := .ref (155 + 10 * k3)) (pc' := 31) i111_30 rfl (x_alE (a := 23) (by decide) hw.1 sh154 (by decide) e4 g5 (by decide)) (x_clE e4 g5 (by decide)) (x_agR (hw.2 _ _ _ (LK_s g5))) ?_
      refine e_get (w := .int (gI h (155 + 10 * k3) 2)) (pc' := 34) i111_31 rfl (x_isB0 (SB_of g5) hw.1) rfl ?_
      refine e_reg (pc' := 43) (ls' := [some (.ref 0), some (.int x)]) (st' := [.int (if (gI h (155 + 10 * k3) 2) = 0 then ((-3)) else (0))]) (fun kj8 => ?_) ?_
      · skip
        refine e_if (pc' := 37) i111_34 rfl (fun c9 => ?_) (fun c9 => ?_)
        · have d10 : ¬ ((gI h (155 + 10 * k3) 2) = 0) := (of_decide_eq_true c9)
          refine e_cn (pc' := 43) i111_42 rfl ?_
          exact (by simp only [if_neg d10] at kj8 ⊢; exact kj8)
        · have d11 : (gI h (155 + 10 * k3) 2) = 0 := (Decidable.not_not.mp (of_decide_eq_false c9))
          refine e_cn (pc' := 39) i111_37 rfl ?_
          refine e_go i111_39 ?_
          exact (by simp only [if_pos d11] at kj8 ⊢; exact kj8)
      refine e_rt i111_43 rfl ?_
      exact H
    · have d12 : (gI h (155 + 10 * k3) 2) = 1 := (Decidable.not_not.mp (of_decide_eq_false c6))
      replace H := H.1 d12
      refine e_cn (pc' := 24) i111_22 rfl ?_
      refine e_rt i111_24 rfl ?_
      exact H
  · have d13 : ¬ ((x_isShelf x) = true) := (show ¬ (x_isShelf x) = true by rw [c1]; decide)
    replace H := H.2 d13
    refine e_cn (pc' := 8) i111_7 rfl ?_
    refine e_rt i111_8 rfl ?_
    exact H
-- FloorTurn.refusalToBuild(IIIII)I
set_option maxHeartbeats 8000000 in
set_option maxRecDepth 100000 in
theorem v112 {L : Nat} {xs : Nat → Int32} {Q : Option Value → Hp → Prop} {h : Hp} {x : Int32} {y : Int32} {z : Int32} {u : Int32} {v : Int32} (hw : HW h) 
  (H : (((x_isCell x) = true) → (((y = 6) → (∃ (r37 : Option Nat), Sp L xs 2 [.ref 2, .int u] h (some (x_rv r37)) h ∧ (r37 = none → (Q (some (.int (-1))) h)) ∧ (∀ q38 : Nat, r37 = some q38 → ((((x_in3 y 1 7) = true) → ((((sdf y z) = true) → (((y = 5) → ((((x_isItem u) = true) → ((((x_in3 v 1 60) = true) → (∃ k59 : Nat, x = nI k59 ∧ k59 < 144 ∧ Q (some (.int (if (gI h (10 + k59) 0) = 0 then (0) else ((-6))))) h)) ∧ (¬ ((x_in3 v 1 60) = true) → (Q (some (.int (-6))) h)))) ∧ (¬ ((x_isItem u) = true) → (Q (some (.int (-6))) h)))) ∧ (¬ (y = 5) → (∃ k46 : Nat, x = nI k46 ∧ k46 < 144 ∧ Q (some (.int (if (gI h (10 + k46) 0) = 0 then (0) else ((-6))))) h)))) ∧ (¬ ((sdf y z) = true) → (Q (some (.int (-6))) h)))) ∧ (¬ ((x_in3 y 1 7) = true) → (Q (some (.int (-6))) h)))))) ∧ (¬ (y = 6) → ((((x_in3 y 1 7) = true) → ((((sdf y z) = true) → (((y = 5) → ((((x_isItem u) = true) → ((((x_in3 v 1 60) = true) → (∃ k26 : Nat, x = nI k26 ∧ k26 < 144 ∧ Q (some (.int (if (gI h (10 + k26) 0) = 0 then (0) else ((-6))))) h)) ∧ (¬ ((x_in3 v 1 60) = true) → (Q (some (.int (-6))) h)))) ∧ (¬ ((x_isItem u) = true) → (Q (some (.int (-6))) h)))) ∧ (¬ (y = 5) → (∃ k13 : Nat, x = nI k13 ∧ k13 < 144 ∧ Q (some (.int (if (gI h (10 + k13) 0) = 0 then (0) else ((-6))))) h)))) ∧ (¬ ((sdf y z) = true) → (Q (some (.int (-6))) h)))) ∧ (¬ ((x_in3 y 1 7) = true) → (Q (some (.int (-6))) h)))))) ∧ (¬ ((x_isCell x) = true) → (Q (some (.int (-1))) h))) : ∃ r h', Sp L xs 112 [.ref 0, .int x, .int y, .int z, .int u, .int v] h r h' ∧ Q r h' := by
  refine sp_ex (ls := [some (.ref 0), some (.int x), some (.int y), some (.int z), some (.int u), some (.int v)]) rfl ?_
  refine e_ld (pc' := 1) i112_0 rfl rfl ?_
  refine e_cI (w := .int (b2i (x_isCell x))) (As := [.int x]) (rest := []) (pc' := 4) i112_1 rfl rfl rfl rfl rfl m115 ?_
  refine e_b0 (pc' := 7) i112_4 rfl (fun c1 => ?_) (fun c1 => ?_)
  · have d2 : ¬ ((x_isCell x) = true) := (show ¬ (x_isCell x) = true by rw [c1]; decide)
    replace H := H.2 d2
    refine e_cn (pc' := 26) i112_25 rfl ?_
    refine e_rt i112_26 rfl ?_
    exact H
  · have d3 : (x_isCell x) = true := c1
    replace H := H.1 d3
    refine e_ld (pc' := 8) i112_7 rfl rfl ?_
    refine e_cn (pc' := 10) i112_8 rfl ?_
    refine e_ic (pc' := 13) i112_10 rfl (fun c4 => ?_) (fun c4 => ?_)
    · have d5 : ¬ (y = 6) := (of_decide_eq_true c4)
      replace H := H.2 d5
      refine e_ld (pc' := 28) i112_27 rfl rfl ?_
      refine e_cn (pc' := 29) i112_28 rfl ?_
      refine e_cn (pc' := 31) i112_29 rfl ?_
      refine e_cI (w := .int (b2i (x_in3 y 1 7))) (As := [.int y, .int 1, .int 7]) (rest := []) (pc' := 34) i112_31 rfl rfl rfl rfl rfl m114 ?_
      refine e_b0 (pc' := 37) i112_34 rfl (fun c6 => ?_) (fun c6 => ?_)
      · have d7 : ¬ ((x_in3 y 1 7) = true) := (show ¬ (x_in3 y 1 7) = true by rw [c6]; decide)
        replace H := H.2 d7
        refine e_cn (pc' := 47) i112_45 rfl ?_
        refine e_rt i112_47 rfl ?_
        exact H
      · have d8 : (x_in3 y 1 7) = true := c6
        replace H := H.1 d8
        refine e_ld (pc' := 38) i112_37 rfl rfl ?_
        refine e_ld (pc' := 39) i112_38 rfl rfl ?_
        refine e_cI (w := .int (b2i (sdf y z))) (As := [.int y, .int z]) (rest := []) (pc' := 42) i112_39 rfl rfl rfl rfl rfl m118 ?_
        refine e_b1 (pc' := 45) i112_42 rfl (fun c9 => ?_) (fun c9 => ?_)
        · have d10 : (sdf y z) = true := c9
          replace H := H.1 d10
          refine e_ld (pc' := 49) i112_48 rfl rfl ?_
          refine e_cn (pc' := 50) i112_49 rfl ?_
          refine e_ic (pc' := 53) i112_50 rfl (fun c11 => ?_) (fun c11 => ?_)
          · have d12 : ¬ (y = 5) := (of_decide_eq_true c11)
            replace H := H.2 d12
            refine e_ld (pc' := 76) i112_75 rfl rfl ?_
            refine e_get (w := .ref 4) (pc' := 79) i112_76 rfl (x_isC (by decide) hw.1 sh0) (x_fvR (by decide +kernel) (hw.2 0 2 4 lk0_2)) ?_
            refine e_get (w := .ref 5) (pc' := 82) i112_79 rfl (x_isC (by decide) hw.1 sh4) (x_fvR (by decide +kernel) (hw.2 4 1 5 lk4_1)) ?_
            refine e_ld (pc' := 83) i112_82 rfl rfl ?_
            obtain ⟨k13, e14, g15, H⟩ := H
            refine e_al (n := k13) (w := .ref (10 + k13)) (pc' := 84) i112_83 rfl (x_alE (a := 23) (by decide) hw.1 sh5 (by decide) e14 g15 (by decide)) (x_clE e14 g15 (by decide)) (x_agR (hw.2 _ _ _ (LK_p4 g15))) ?_
            refine e_get (w := .int (gI h (10 + k13) 0)) (pc' := 87) i112_84 rfl (x_isP (PT_4 g15) hw.1) rfl ?_
            refine e_reg (pc' := 96) (ls' := [some (.ref 0), some (.int x), some (.int y), some (.int z), some (.int u), some (.int v)]) (st' := [.int (if (gI h (10 + k13) 0) = 0 then (0) else ((-6)))]) (fun kj16 => ?_) ?_
            · skip
              refine e_if (pc' := 90) i112_87 rfl (fun c17 => ?_) (fun c17 => ?_)
              · have d18 : ¬ ((gI h (10 + k13) 0) = 0) := (of_decide_eq_true c17)
                refine e_cn (pc' := 96) i112_94 rfl ?_
                exact (by simp only [if_neg d18] at kj16 ⊢; exact kj16)
              · have d19 : (gI h (10 + k13) 0) = 0 := (Decidable.not_not.mp (of_decide_eq_false c17))
                refine e_cn (pc' := 91) i112_90 rfl ?_
                refine e_go i112_91 ?_
                exact (by simp only [if_pos d19] at kj16 ⊢; exact kj16)
            refine e_rt i112_96 rfl ?_
            exact H
          · have d20 : y = 5 := (Decidable.not_not.mp (of_decide_eq_false c11))
            replace H := H.1 d20
            refine e_ld (pc' := 55) i112_53 rfl rfl ?_
            refine e_cI (w := .int (b2i (x_isItem u))) (As := [.int u]) (rest := []) (pc' := 58) i112_55 rfl rfl rfl rfl rfl m117 ?_
            refine e_b0 (pc' := 61) i112_58 rfl (fun c21 => ?_) (fun c21 => ?_)
            · have d22 : ¬ ((x_isItem u) = true) := (show ¬ (x_isItem u) = true by rw [c21]; decide)
              replace H := H.2 d22
              refine e_cn (pc' := 74) i112_72 rfl ?_
              refine e_rt i112_74 rfl ?_
              exact H
            · have d23 : (x_isItem u) = true := c21
              replace H := H.1 d23
              refine e_ld (pc' := 63) i112_61 rfl rfl ?_
              refine e_cn (pc' := 64) i112_63 rfl ?_
              refine e_cn (pc' := 66) i112_64 rfl ?_
              refine e_cI (w := .int (b2i (x_in3 v 1 60))) (As := [.int v, .int 1, .int 60]) (rest := []) (pc' := 69) i112_66 rfl rfl rfl rfl rfl m114 ?_
              refine e_b1 (pc' := 72) i112_69 rfl (fun c24 => ?_) (fun c24 => ?_)
              · have d25 : (x_in3 v 1 60) = true := c24
                replace H := H.1 d25
                refine e_ld (pc' := 76) i112_75 rfl rfl ?_
                refine e_get (w := .ref 4) (pc' := 79) i112_76 rfl (x_isC (by decide) hw.1 sh0) (x_fvR (by decide +kernel) (hw.2 0 2 4 lk0_2)) ?_
                refine e_get (w := .ref 5) (pc' := 82) i112_79 rfl (x_isC (by decide) hw.1 sh4) (x_fvR (by decide +kernel) (hw.2 4 1 5 lk4_1)) ?_
                refine e_ld (pc' := 83) i112_82 rfl rfl ?_
                obtain ⟨k26, e27, g28, H⟩ := H
                refine e_al (n := k26) (w := .ref (10 + k26)) (pc' := 84) i112_83 rfl (x_alE (a := 23) (by decide) hw.1 sh5 (by decide) e27 g28 (by decide)) (x_clE e27 g28 (by decide)) (x_agR (hw.2 _ _ _ (LK_p4 g28))) ?_
                refine e_get (w := .int (gI h (10 + k26) 0)) (pc' := 87) i112_84 rfl (x_isP (PT_4 g28) hw.1) rfl ?_
                refine e_reg (pc' := 96) (ls' := [some (.ref 0), some (.int x), some (.int y), some (.int z), some (.int u), some (.int v)]) (st' := [.int (if (gI h (10 + k26) 0) = 0 then (0) else ((-6)))]) (fun kj29 => ?_) ?_
                · skip
                  refine e_if (pc' := 90) i112_87 rfl (fun c30 => ?_) (fun c30 => ?_)
                  · have d31 : ¬ ((gI h (10 + k26) 0) = 0) := (of_decide_eq_true c30)
                    refine e_cn (pc' := 96) i112_94 rfl ?_
                    exact (by simp only [if_neg d31] at kj29 ⊢; exact kj29)
                  · have d32 : (gI h (10 + k26) 0) = 0 := (Decidable.not_not.mp (of_decide_eq_false c30))
                    refine e_cn (pc' := 91) i112_90 rfl ?_
                    refine e_go i112_91 ?_
                    exact (by simp only [if_pos d32] at kj29 ⊢; exact kj29)
                refine e_rt i112_96 rfl ?_
                exact H
              · have d33 : ¬ ((x_in3 v 1 60) = true) := (show ¬ (x_in3 v 1 60) = true by rw [c24]; decide)
                replace H := H.2 d33
                refine e_cn (pc' := 74) i112_72 rfl ?_
                refine e_rt i112_74 rfl ?_
                exact H
        · have d34 : ¬ ((sdf y z) = true) := (show ¬ (sdf y z) = true by rw [c9]; decide)
          replace H := H.2 d34
          refine e_cn (pc' := 47) i112_45 rfl ?_
          refine e_rt i112_47 rfl ?_
          exact H
    · have d35 : y = 6 := (Decidable.not_not.mp (of_decide_eq_false c4))
      replace H := H.1 d35
      refine e_ld (pc' := 14) i112_13 rfl rfl ?_
      refine e_get (w := .ref 2) (pc' := 17) i112_14 rfl (x_isC (by decide) hw.1 sh0) (x_fvR (by decide +kernel) (hw.2 0 1 2 lk0_1)) ?_
      refine e_ld (pc' := 19) i112_17 rfl rfl ?_
      obtain ⟨r37, s36, H⟩ := H
      cases r37 with
      | none =>
        replace H := H.1 rfl
        refine e_cI (w := .null) (As := [.ref 2, .int u]) (rest := []) (pc' := 22) i112_19 rfl rfl rfl rfl (by show (Nat.beq (x_kd 2) 0 && x_is 2 _ (MC 2) 0) = true; rw [show x_kd 2 = 0 by decide +kernel, show MC 2 = 0 by decide +kernel, (x_isC (by decide) hw.1 sh2)]; rfl) s36 ?_
        refine e_nul (pc' := 25) i112_22 rfl ?_
        refine e_cn (pc' := 26) i112_25 rfl ?_
        refine e_rt i112_26 rfl ?_
        exact H
      | some q38 =>
        replace H := H.2 _ rfl
        refine e_cI (w := .ref q38) (As := [.ref 2, .int u]) (rest := []) (pc' := 22) i112_19 rfl rfl rfl rfl (by show (Nat.beq (x_kd 2) 0 && x_is 2 _ (MC 2) 0) = true; rw [show x_kd 2 = 0 by decide +kernel, show MC 2 = 0 by decide +kernel, (x_isC (by decide) hw.1 sh2)]; rfl) s36 ?_
        refine e_nur (pc' := 27) i112_22 rfl ?_
        refine e_ld (pc' := 28) i112_27 rfl rfl ?_
        refine e_cn (pc' := 29) i112_28 rfl ?_
        refine e_cn (pc' := 31) i112_29 rfl ?_
        refine e_cI (w := .int (b2i (x_in3 y 1 7))) (As := [.int y, .int 1, .int 7]) (rest := []) (pc' := 34) i112_31 rfl rfl rfl rfl rfl m114 ?_
        refine e_b0 (pc' := 37) i112_34 rfl (fun c39 => ?_) (fun c39 => ?_)
        · have d40 : ¬ ((x_in3 y 1 7) = true) := (show ¬ (x_in3 y 1 7) = true by rw [c39]; decide)
          replace H := H.2 d40
          refine e_cn (pc' := 47) i112_45 rfl ?_
          refine e_rt i112_47 rfl ?_
          exact H
        · have d41 : (x_in3 y 1 7) = true := c39
          replace H := H.1 d41
          refine e_ld (pc' := 38) i112_37 rfl rfl ?_
          refine e_ld (pc' := 39) i112_38 rfl rfl ?_
          refine e_cI (w := .int (b2i (sdf y z))) (As := [.int y, .int z]) (rest := []) (pc' := 42) i112_39 rfl rfl rfl rfl rfl m118 ?_
          refine e_b1 (pc' := 45) i112_42 rfl (fun c42 => ?_) (fun c42 => ?_)
          · have d43 : (sdf y z) = true := c42
            replace H := H.1 d43
            refine e_ld (pc' := 49) i112_48 rfl rfl ?_
            refine e_cn (pc' := 50) i112_49 rfl ?_
            refine e_ic (pc' := 53) i112_50 rfl (fun c44 => ?_) (fun c44 => ?_)
            · have d45 : ¬ (y = 5) := (of_decide_eq_true c44)
              replace H := H.2 d45
              refine e_ld (pc' := 76) i112_75 rfl rfl ?_
              refine e_get (w := .ref 4) (pc' := 79) i112_76 rfl (x_isC (by decide) hw.1 sh0) (x_fvR (by decide +kernel) (hw.2 0 2 4 lk0_2)) ?_
              refine e_get (w := .ref 5) (pc' := 82) i112_79 rfl (x_isC (by decide) hw.1 sh4) (x_fvR (by decide +kernel) (hw.2 4 1 5 lk4_1)) ?_
              refine e_ld (pc' := 83) i112_82 rfl rfl ?_
              obtain ⟨k46, e47, g48, H⟩ := H
              refine e_al (n := k46) (w := .ref (10 + k46)) (pc' := 84) i112_83 rfl (x_alE (a := 23) (by decide) hw.1 sh5 (by decide) e47 g48 (by decide)) (x_clE e47 g48 (by decide)) (x_agR (hw.2 _ _ _ (LK_p4 g48))) ?_
              refine e_get (w := .int (gI h (10 + k46) 0)) (pc' := 87) i112_84 rfl (x_isP (PT_4 g48) hw.1) rfl ?_
              refine e_reg (pc' := 96) (ls' := [some (.ref 0), some (.int x), some (.int y), some (.int z), some (.int u), some (.int v)]) (st' := [.int (if (gI h (10 + k46) 0) = 0 then (0) else ((-6)))]) (fun kj49 => ?_) ?_
              · skip
                refine e_if (pc' := 90) i112_87 rfl (fun c50 => ?_) (fun c50 => ?_)
                · have d51 : ¬ ((gI h (10 + k46) 0) = 0) := (of_decide_eq_true c50)
                  refine e_cn (pc' := 96) i112_94 rfl ?_
                  exact (by simp only [if_neg d51] at kj49 ⊢; exact kj49)
                · have d52 : (gI h (10 + k46) 0) = 0 := (Decidable.not_not.mp (of_decide_eq_false c50))
                  refine e_cn (pc' := 91) i112_90 rfl ?_
                  refine e_go i112_91 ?_
                  exact (by simp only [if_pos d52] at kj49 ⊢; exact kj49)
              refine e_rt i112_96 rfl ?_
              exact H
            · have d53 : y = 5 := (Decidable.not_not.mp (of_decide_eq_false c44))
              replace H := H.1 d53
              refine e_ld (pc' := 55) i112_53 rfl rfl ?_
              refine e_cI (w := .int (b2i (x_isItem u))) (As := [.int u]) (rest := []) (pc' := 58) i112_55 rfl rfl rfl rfl rfl m117 ?_
              refine e_b0 (pc' := 61) i112_58 rfl (fun c54 => ?_) (fun c54 => ?_)
              · have d55 : ¬ ((x_isItem u) = true) := (show ¬ (x_isItem u) = true by rw [c54]; decide)
                replace H := H.2 d55
                refine e_cn (pc' := 74) i112_72 rfl ?_
                refine e_rt i112_74 rfl ?_
                exact H
              · have d56 : (x_isItem u) = true := c54
                replace H := H.1 d56
                refine e_ld (pc' := 63) i112_61 rfl rfl ?_
                refine e_cn (pc' := 64) i112_63 rfl ?_
                refine e_cn (pc' := 66) i112_64 rfl ?_
                refine e_cI (w := .int (b2i (x_in3 v 1 60))) (As := [.int v, .int 1, .int 60]) (rest := []) (pc' := 69) i112_66 rfl rfl rfl rfl rfl m114 ?_
                refine e_b1 (pc' := 72) i112_69 rfl (fun c57 => ?_) (fun c57 => ?_)
                · have d58 : (x_in3 v 1 60) = true := c57
                  replace H := H.1 d58
                  refine e_ld (pc' := 76) i112_75 rfl rfl ?_
                  refine e_get (w := .ref 4) (pc' := 79) i112_76 rfl (x_isC (by decide) hw.1 sh0) (x_fvR (by decide +kernel) (hw.2 0 2 4 lk0_2)) ?_
                  refine e_get (w := .ref 5) (pc' := 82) i112_79 rfl (x_isC (by decide) hw.1 sh4) (x_fvR (by decide +kernel) (hw.2 4 1 5 lk4_1)) ?_
                  refine e_ld (pc' := 83) i112_82 rfl rfl ?_
                  obtain ⟨k59, e60, g61, H⟩ := H
                  refine e_al (n := k59) (w := .ref (10 + k59)) (pc' := 84) i112_83 rfl (x_alE (a := 23) (by decide) hw.1 sh5 (by decide) e60 g61 (by decide)) (x_clE e60 g61 (by decide)) (x_agR (hw.2 _ _ _ (LK_p4 g61))) ?_
                  refine e_get (w := .int (gI h (10 + k59) 0)) (pc' := 87) i112_84 rfl (x_isP (PT_4 g61) hw.1) rfl ?_
                  refine e_reg (pc' := 96) (ls' := [some (.ref 0), some (.int x), some (.int y), some (.int z), some (.int u), some (.int v)]) (st' := [.int (if (gI h (10 + k59) 0) = 0 then (0) else ((-6)))]) (fun kj62 => ?_) ?_
                  · skip
                    refine e_if (pc' := 90) i112_87 rfl (fun c63 => ?_) (fun c63 => ?_)
                    · have d64 : ¬ ((gI h (10 + k59) 0) = 0) := (of_decide_eq_true c63)
                      refine e_cn (pc' := 96) i112_94 rfl ?_
                      exact (by simp only [if_neg d64] at kj62 ⊢; exact kj62)
                    · have d65 : (gI h (10 + k59) 0) = 0 := (Decidable.not_not.mp (of_decide_eq_false c63))
                      refine e_cn (pc' := 91) i112_90 rfl ?_
                      refine e_go i112_91 ?_
                      exact (by simp only [if_pos d65] at kj62 ⊢; exact kj62)
                  refine e_rt i112_96 rfl ?_
                  exact H
                · have d66 : ¬ ((x_in3 v 1 60) = true) := (show ¬ (x_in3 v 1 60) = true by rw [c57]; decide)
                  replace H := H.2 d66
                  refine e_cn (pc' := 74) i112_72 rfl ?_
                  refine e_rt i112_74 rfl ?_
                  exact H
          · have d67 : ¬ ((sdf y z) = true) := (show ¬ (sdf y z) = true by rw [c42]; decide)
            replace H := H.2 d67
            refine e_cn (pc' := 47) i112_45 rfl ?_
            refine e_rt i112_47 rfl ?_
            exact H
-- FloorTurn.canBuildFrom(LFloorTurn$Row;I)Z
set_option maxHeartbeats 8000000 in
set_option maxRecDepth 100000 in
theorem v113 {L : Nat} {xs : Nat → Int32} {Q : Option Value → Hp → Prop} {h : Hp} {b : Nat} {y : Int32} (hw : HW h) (hb : SB b)
  (H : ∃ (r2 : Int32), Sp L xs 80 [.ref (b + 1), .int (5 * y)] h (some (.int r2)) h ∧ WP L xs 113 14 [some (.ref 0), some (.ref (b + 1)), some (.int y), some (.int (5 * y)), some (.int r2), some (.int 0)] [] h Q) : ∃ r h', Sp L xs 113 [.ref 0, .ref (b + 1), .int y] h r h' ∧ Q r h' := by
  refine sp_ex (ls := [some (.ref 0), some (.ref (b + 1)), some (.int y), none, none, none]) rfl ?_
  refine e_cn (pc' := 1) i113_0 rfl ?_
  refine e_ld (pc' := 2) i113_1 rfl rfl ?_
  refine e_ib (z := 5 * y) (pc' := 3) i113_2 rfl rfl ?_
  refine e_st (ls' := [some (.ref 0), some (.ref (b + 1)), some (.int y), some (.int (5 * y)), none, none]) (pc' := 4) i113_3 rfl rfl rfl ?_
  refine e_ld (pc' := 5) i113_4 rfl rfl ?_
  refine e_ld (pc' := 6) i113_5 rfl rfl ?_
  obtain ⟨r2, s1, H⟩ := H
  refine e_cI (w := .int r2) (As := [.ref (b + 1), .int (5 * y)]) (rest := []) (pc' := 9) i113_6 rfl rfl rfl rfl (by show (Nat.beq (x_kd 80) 0 && x_is (b + 1) _ (MC 80) 0) = true; rw [show x_kd 80 = 0 by decide +kernel, show MC 80 = 8 by decide +kernel, (x_isB1 hb hw.1)]; rfl) s1 ?_
  refine e_st (ls' := [some (.ref 0), some (.ref (b + 1)), some (.int y), some (.int (5 * y)), some (.int r2), none]) (pc' := 11) i113_9 rfl rfl rfl ?_
  refine e_cn (pc' := 12) i113_11 rfl ?_
  refine e_st (ls' := [some (.ref 0), some (.ref (b + 1)), some (.int y), some (.int (5 * y)), some (.int r2), some (.int 0)]) (pc' := 14) i113_12 rfl rfl rfl ?_
  exact H
set_option maxHeartbeats 8000000 in
set_option maxRecDepth 100000 in
theorem v113_14 {L : Nat} {xs : Nat → Int32} {Q : Option Value → Hp → Prop} {h : Hp} {b : Nat} {z2 : Option Value} {l3 : Int32} {l4 : Int32} {l5 : Int32} (hw : HW h) (hb : SB b)
  (H : ((l3 ≤ l5) → (∃ (r4 : Int32), Sp L xs 80 [.ref (b + 1), .int (l3 + 1)] h (some (.int r4)) h ∧ ∃ (r6 : Int32), Sp L xs 80 [.ref (b + 1), .int (l3 + 2)] h (some (.int r6)) h ∧ ∃ (r8 : Int32), Sp L xs 80 [.ref (b + 1), .int (l3 + 3)] h (some (.int r8)) h ∧ ∃ (r10 : Int32), Sp L xs 80 [.ref (b + 1), .int (l3 + 4)] h (some (.int r10)) h ∧ ∃ (r12 : Int32), Sp L xs 112 [.ref 0, .int l4, .int r4, .int r6, .int r8, .int r10] h (some (.int r12)) h ∧ Q (some (.int (b2i (if r12 = 0 then (true) else (false))))) h)) ∧ (¬ (l3 ≤ l5) → (∃ (r19 : Int32), Sp L xs 80 [.ref (b + 1), .int l5] h (some (.int r19)) h ∧ ((r19 = l4) → (Q (some (.int 0)) h)) ∧ (¬ (r19 = l4) → (WP L xs 113 14 [some (.ref 0), some (.ref (b + 1)), z2, some (.int l3), some (.int l4), some (.int (l5 + 5))] [] h Q))))) : WP L xs 113 14 [some (.ref 0), some (.ref (b + 1)), z2, some (.int l3), some (.int l4), some (.int l5)] [] h Q := by
  refine e_ld (pc' := 16) i113_14 rfl rfl ?_
  refine e_ld (pc' := 17) i113_16 rfl rfl ?_
  refine e_ic (pc' := 20) i113_17 rfl (fun c1 => ?_) (fun c1 => ?_)
  · have d2 : l3 ≤ l5 := (of_decide_eq_true c1)
    replace H := H.1 d2
    refine e_ld (pc' := 40) i113_39 rfl rfl ?_
    refine e_ld (pc' := 42) i113_40 rfl rfl ?_
    refine e_ld (pc' := 43) i113_42 rfl rfl ?_
    refine e_ld (pc' := 44) i113_43 rfl rfl ?_
    refine e_cn (pc' := 45) i113_44 rfl ?_
    refine e_ib (z := l3 + 1) (pc' := 46) i113_45 rfl rfl ?_
    obtain ⟨r4, s3, H⟩ := H
    refine e_cI (w := .int r4) (As := [.ref (b + 1), .int (l3 + 1)]) (rest := [.int l4, .ref 0]) (pc' := 49) i113_46 rfl rfl rfl rfl (by show (Nat.beq (x_kd 80) 0 && x_is (b + 1) _ (MC 80) 0) = true; rw [show x_kd 80 = 0 by decide +kernel, show MC 80 = 8 by decide +kernel, (x_isB1 hb hw.1)]; rfl) s3 ?_
    refine e_ld (pc' := 50) i113_49 rfl rfl ?_
    refine e_ld (pc' := 51) i113_50 rfl rfl ?_
    refine e_cn (pc' := 52) i113_51 rfl ?_
    refine e_ib (z := l3 + 2) (pc' := 53) i113_52 rfl rfl ?_
    obtain ⟨r6, s5, H⟩ := H
    refine e_cI (w := .int r6) (As := [.ref (b + 1), .int (l3 + 2)]) (rest := [.int r4, .int l4, .ref 0]) (pc' := 56) i113_53 rfl rfl rfl rfl (by show (Nat.beq (x_kd 80) 0 && x_is (b + 1) _ (MC 80) 0) = true; rw [show x_kd 80 = 0 by decide +kernel, show MC 80 = 8 by decide +kernel, (x_isB1 hb hw.1)]; rfl) s5 ?_
    refine e_ld (pc' := 57) i113_56 rfl rfl ?_
    refine e_ld (pc' := 58) i113_57 rfl rfl ?_
    refine e_cn (pc' := 59) i113_58 rfl ?_
    refine e_ib (z := l3 + 3) (pc' := 60) i113_59 rfl rfl ?_
    obtain ⟨r8, s7, H⟩ := H
    refine e_cI (w := .int r8) (As := [.ref (b + 1), .int (l3 + 3)]) (rest := [.int r6, .int r4, .int l4, .ref 0]) (pc' := 63) i113_60 rfl rfl rfl rfl (by show (Nat.beq (x_kd 80) 0 && x_is (b + 1) _ (MC 80) 0) = true; rw [show x_kd 80 = 0 by decide +kernel, show MC 80 = 8 by decide +kernel, (x_isB1 hb hw.1)]; rfl) s7 ?_
    refine e_ld (pc' := 64) i113_63 rfl rfl ?_
    refine e_ld (pc' := 65) i113_64 rfl rfl ?_
    refine e_cn (pc' := 66) i113_65 rfl ?_
    refine e_ib (z := l3 + 4) (pc' := 67) i113_66 rfl rfl ?_
    obtain ⟨r10, s9, H⟩ := H
    refine e_cI (w := .int r10) (As := [.ref (b + 1), .int (l3 + 4)]) (rest := [.int r8, .int r6, .int r4, .int l4, .ref 0]) (pc' := 70) i113_67 rfl rfl rfl rfl (by show (Nat.beq (x_kd 80) 0 && x_is (b + 1) _ (MC 80) 0) = true; rw [show x_kd 80 = 0 by decide +kernel, show MC 80 = 8 by decide +kernel, (x_isB1 hb hw.1)]; rfl) s9 ?_
    obtain ⟨r12, s11, H⟩ := H
    refine e_cI (w := .int r12) (As := [.ref 0, .int l4, .int r4, .int r6, .int r8, .int r10]) (rest := []) (pc' := 73) i113_70 rfl rfl rfl rfl (by show (Nat.beq (x_kd 112) 0 && x_is 0 _ (MC 112) 0) = true; rw [show x_kd 112 = 0 by decide +kernel, show MC 112 = 10 by decide +kernel, (x_isC (by decide) hw.1 sh0)]; rfl) s11 ?_
    refine e_reg (pc' := 81) (ls' := [some (.ref 0), some (.ref (b + 1)), z2, some (.int l3), some (.int l4), some (.int l5)]) (st' := [.int (b2i (if r12 = 0 then (true) else (false)))]) (fun kj13 => ?_) ?_
    · skip
      refine e_if (pc' := 76) i113_73 rfl (fun c14 => ?_) (fun c14 => ?_)
      · have d15 : ¬ (r12 = 0) := (of_decide_eq_true c14)
        refine e_cn (pc' := 81) i113_80 rfl ?_
        exact (by simp only [if_neg d15] at kj13 ⊢; exact kj13)
      · have d16 : r12 = 0 := (Decidable.not_not.mp (of_decide_eq_false c14))
        refine e_cn (pc' := 77) i113_76 rfl ?_
        refine e_go i113_77 ?_
        exact (by simp only [if_pos d16] at kj13 ⊢; exact kj13)
    refine e_rt (r := some (.int (b2i (if r12 = 0 then (true) else (false))))) i113_81 (by simp only [x_rt, show MR 113 = some .boolean by decide +kernel, b2i_01, cond_true]) ?_
    exact H
  · have d17 : ¬ (l3 ≤ l5) := (of_decide_eq_false c1)
    replace H := H.2 d17
    refine e_ld (pc' := 21) i113_20 rfl rfl ?_
    refine e_ld (pc' := 23) i113_21 rfl rfl ?_
    obtain ⟨r19, s18, H⟩ := H
    refine e_cI (w := .int r19) (As := [.ref (b + 1), .int l5]) (rest := []) (pc' := 26) i113_23 rfl rfl rfl rfl (by show (Nat.beq (x_kd 80) 0 && x_is (b + 1) _ (MC 80) 0) = true; rw [show x_kd 80 = 0 by decide +kernel, show MC 80 = 8 by decide +kernel, (x_isB1 hb hw.1)]; rfl) s18 ?_
    refine e_ld (pc' := 28) i113_26 rfl rfl ?_
    refine e_ic (pc' := 31) i113_28 rfl (fun c20 => ?_) (fun c20 => ?_)
    · have d21 : ¬ (r19 = l4) := (of_decide_eq_true c20)
      replace H := H.2 d21
      refine e_inc (z := l5 + 5) (ls' := [some (.ref 0), some (.ref (b + 1)), z2, some (.int l3), some (.int l4), some (.int (l5 + 5))]) (pc' := 36) i113_33 rfl rfl rfl rfl ?_
      refine e_go i113_36 ?_
      exact H
    · have d22 : r19 = l4 := (Decidable.not_not.mp (of_decide_eq_false c20))
      replace H := H.1 d22
      refine e_cn (pc' := 32) i113_31 rfl ?_
      refine e_rt i113_32 rfl ?_
      exact H
-- FloorTurnModel.refuse(I)I
set_option maxHeartbeats 8000000 in
set_option maxRecDepth 100000 in
theorem v124 {L : Nat} {xs : Nat → Int32} {Q : Option Value → Hp → Prop} {h : Hp} {x : Int32} (hw : HW h) 
  (H : ∃ k1 : Nat, (-x) = nI k1 ∧ k1 < 8 ∧ Q (some (.int x)) (sI h 398 k1 ((gI h 398 k1) + 1))) : ∃ r h', Sp L xs 124 [.ref 397, .int x] h r h' ∧ Q r h' := by
  refine sp_ex (ls := [some (.ref 397), some (.int x)]) rfl ?_
  refine e_ld (pc' := 1) i124_0 rfl rfl ?_
  refine e_get (w := .ref 398) (pc' := 4) i124_1 rfl (x_isC (by decide) hw.1 sh397) (x_fvR (by decide +kernel) (hw.2 397 0 398 lk397_0)) ?_
  refine e_ld (pc' := 5) i124_4 rfl rfl ?_
  refine e_un (pc' := 6) i124_5 rfl rfl ?_
  refine e_stk (pc' := 7) i124_6 rfl rfl ?_
  obtain ⟨k1, e2, g3, H⟩ := H
  refine e_al (n := k1) (w := .int (gI h 398 k1)) (pc' := 8) i124_7 rfl (x_alE (a := 20) (by decide) hw.1 sh398 (by decide) e2 g3 (by decide)) (x_clE e2 g3 (by decide)) rfl ?_
  refine e_cn (pc' := 9) i124_8 rfl ?_
  refine e_ib (z := (gI h 398 k1) + 1) (pc' := 10) i124_9 rfl rfl ?_
  refine e_as (n := k1) (h' := sI h 398 k1 ((gI h 398 k1) + 1)) (pc' := 11) i124_10 rfl (x_alE (a := 20) (by decide) hw.1 sh398 (by decide) e2 g3 (by decide)) (x_clE e2 g3 (by decide)) (by rw [(show (SH 398).1 = 20 by rw [sh398])]; rfl) ?_
  have w5 : HW (sI h 398 k1 ((gI h 398 k1) + 1)) := HW_sI hw
  refine e_ld (pc' := 12) i124_11 rfl rfl ?_
  refine e_rt i124_12 rfl ?_
  exact H
-- FloorTurnModel.leads(II)Z
set_option maxHeartbeats 8000000 in
set_option maxRecDepth 100000 in
theorem v128 {L : Nat} {xs : Nat → Int32} {Q : Option Value → Hp → Prop} {h : Hp} {x : Int32} {y : Int32} (hw : HW h) 
  (H : ∃ k1 : Nat, x = nI k1 ∧ k1 < 144 ∧ (((gI h 405 k1) = 4) → (Q (some (.int (b2i (if (((gI h 406 k1) >>> ((y : Int32) &&& 31)) &&& 1) = 1 then (true) else (false))))) h)) ∧ (¬ ((gI h 405 k1) = 4) → ((((gI h 405 k1) = 0) → (Q (some (.int 0)) h)) ∧ (¬ ((gI h 405 k1) = 0) → ((((gI h 405 k1) = 7) → (Q (some (.int 0)) h)) ∧ (¬ ((gI h 405 k1) = 7) → (Q (some (.int (b2i (if (gI h 406 k1) = y then (true) else (false))))) h))))))) : ∃ r h', Sp L xs 128 [.ref 397, .int x, .int y] h r h' ∧ Q r h' := by
  refine sp_ex (ls := [some (.ref 397), some (.int x), some (.int y), none]) rfl ?_
  refine e_ld (pc' := 1) i128_0 rfl rfl ?_
  refine e_get (w := .ref 405) (pc' := 4) i128_1 rfl (x_isC (by decide) hw.1 sh397) (x_fvR (by decide +kernel) (hw.2 397 8 405 lk397_8)) ?_
  refine e_ld (pc' := 5) i128_4 rfl rfl ?_
  obtain ⟨k1, e2, g3, H⟩ := H
  refine e_al (n := k1) (w := .int (gI h 405 k1)) (pc' := 6) i128_5 rfl (x_alE (a := 20) (by decide) hw.1 sh405 (by decide) e2 g3 (by decide)) (x_clE e2 g3 (by decide)) rfl ?_
  refine e_st (ls' := [some (.ref 397), some (.int x), some (.int y), some (.int (gI h 405 k1))]) (pc' := 7) i128_6 rfl rfl rfl ?_
  refine e_ld (pc' := 8) i128_7 rfl rfl ?_
  refine e_cn (pc' := 9) i128_8 rfl ?_
  refine e_ic (pc' := 12) i128_9 rfl (fun c4 => ?_) (fun c4 => ?_)
  · have d5 : ¬ ((gI h 405 k1) = 4) := (of_decide_eq_true c4)
    replace H := H.2 d5
    refine e_ld (pc' := 35) i128_34 rfl rfl ?_
    refine e_if (pc' := 38) i128_35 rfl (fun c6 => ?_) (fun c6 => ?_)
    · have d7 : (gI h 405 k1) = 0 := (of_decide_eq_true c6)
      replace H := H.1 d7
      refine e_cn (pc' := 59) i128_58 rfl ?_
      refine e_rt i128_59 rfl ?_
      exact H
    · have d8 : ¬ ((gI h 405 k1) = 0) := (of_decide_eq_false c6)
      replace H := H.2 d8
      refine e_ld (pc' := 39) i128_38 rfl rfl ?_
      refine e_cn (pc' := 41) i128_39 rfl ?_
      refine e_ic (pc' := 44) i128_41 rfl (fun c9 => ?_) (fun c9 => ?_)
      · have d10 : (gI h 405 k1) = 7 := (of_decide_eq_true c9)
        replace H := H.1 d10
        refine e_cn (pc' := 59) i128_58 rfl ?_
        refine e_rt i128_59 rfl ?_
        exact H
      · have d11 : ¬ ((gI h 405 k1) = 7) := (of_decide_eq_false c9)
        replace H := H.2 d11
        refine e_ld (pc' := 45) i128_44 rfl rfl ?_
        refine e_get (w := .ref 406) (pc' := 48) i128_45 rfl (x_isC (by decide) hw.1 sh397) (x_fvR (by decide +kernel) (hw.2 397 9 406 lk397_9)) ?_
        refine e_ld (pc' := 49) i128_48 rfl rfl ?_
        refine e_al (n := k1) (w := .int (gI h 406 k1)) (pc' := 50) i128_49 rfl (x_alE (a := 20) (by decide) hw.1 sh406 (by decide) e2 g3 (by decide)) (x_clE e2 g3 (by decide)) rfl ?_
        refine e_ld (pc' := 51) i128_50 rfl rfl ?_
        refine e_reg (pc' := 59) (ls' := [some (.ref 397), some (.int x), some (.int y), some (.int (gI h 405 k1))]) (st' := [.int (b2i (if (gI h 406 k1) = y then (true) else (false)))]) (fun kj12 => ?_) ?_
        · skip
          refine e_ic (pc' := 54) i128_51 rfl (fun c13 => ?_) (fun c13 => ?_)
          · have d14 : ¬ ((gI h 406 k1) = y) := (of_decide_eq_true c13)
            refine e_cn (pc' := 59) i128_58 rfl ?_
            exact (by simp only [if_neg d14] at kj12 ⊢; exact kj12)
          · have d15 : (gI h 406 k1) = y := (Decidable.not_not.mp (of_decide_eq_false c13))
            refine e_cn (pc' := 55) i128_54 rfl ?_
            refine e_go i128_55 ?_
            exact (by simp only [if_pos d15] at kj12 ⊢; exact kj12)
        refine e_rt (r := some (.int (b2i (if (gI h 406 k1) = y then (true) else (false))))) i128_59 (by simp only [x_rt, show MR 128 = some .boolean by decide +kernel, b2i_01, cond_true]) ?_
        exact H
  · have d16 : (gI h 405 k1) = 4 := (Decidable.not_not.mp (of_decide_eq_false c4))
    replace H := H.1 d16
    refine e_ld (pc' := 13) i128_12 rfl rfl ?_
    refine e_get (w := .ref 406) (pc' := 16) i128_13 rfl (x_isC (by decide) hw.1 sh397) (x_fvR (by decide +kernel) (hw.2 397 9 406 lk397_9)) ?_
    refine e_ld (pc' := 17) i128_16 rfl rfl ?_
    refine e_al (n := k1) (w := .int (gI h 406 k1)) (pc' := 18) i128_17 rfl (x_alE (a := 20) (by decide) hw.1 sh406 (by decide) e2 g3 (by decide)) (x_clE e2 g3 (by decide)) rfl ?_
    refine e_ld (pc' := 19) i128_18 rfl rfl ?_
    refine e_ib (z := (gI h 406 k1) >>> ((y : Int32) &&& 31)) (pc' := 20) i128_19 rfl rfl ?_
    refine e_cn (pc' := 21) i128_20 rfl ?_
    refine e_ib (z := ((gI h 406 k1) >>> ((y : Int32) &&& 31)) &&& 1) (pc' := 22) i128_21 rfl rfl ?_
    refine e_cn (pc' := 23) i128_22 rfl ?_
    refine e_reg (pc' := 59) (ls' := [some (.ref 397), some (.int x), some (.int y), some (.int (gI h 405 k1))]) (st' := [.int (b2i (if (((gI h 406 k1) >>> ((y : Int32) &&& 31)) &&& 1) = 1 then (true) else (false)))]) (fun kj17 => ?_) ?_
    · skip
      refine e_ic (pc' := 26) i128_23 rfl (fun c18 => ?_) (fun c18 => ?_)
      · have d19 : ¬ ((((gI h 406 k1) >>> ((y : Int32) &&& 31)) &&& 1) = 1) := (of_decide_eq_true c18)
        refine e_cn (pc' := 31) i128_30 rfl ?_
        refine e_go i128_31 ?_
        exact (by simp only [if_neg d19] at kj17 ⊢; exact kj17)
      · have d20 : (((gI h 406 k1) >>> ((y : Int32) &&& 31)) &&& 1) = 1 := (Decidable.not_not.mp (of_decide_eq_false c18))
        refine e_cn (pc' := 27) i128_26 rfl ?_
        refine e_go i128_27 ?_
        exact (by simp only [if_pos d20] at kj17 ⊢; exact kj17)
    refine e_rt (r := some (.int (b2i (if (((gI h 406 k1) >>> ((y : Int32) &&& 31)) &&& 1) = 1 then (true) else (false))))) i128_59 (by simp only [x_rt, show MR 128 = some .boolean by decide +kernel, b2i_01, cond_true]) ?_
    exact H
-- FloorTurnModel.recipeOf(I)I
set_option maxHeartbeats 8000000 in
set_option maxRecDepth 100000 in
theorem v129 {L : Nat} {xs : Nat → Int32} {Q : Option Value → Hp → Prop} {h : Hp} {x : Int32} (hw : HW h) 
  (H : WP L xs 129 2 [some (.ref 397), some (.int x), some (.int 0)] [] h Q) : ∃ r h', Sp L xs 129 [.ref 397, .int x] h r h' ∧ Q r h' := by
  refine sp_ex (ls := [some (.ref 397), some (.int x), none]) rfl ?_
  refine e_cn (pc' := 1) i129_0 rfl ?_
  refine e_st (ls' := [some (.ref 397), some (.int x), some (.int 0)]) (pc' := 2) i129_1 rfl rfl rfl ?_
  exact H
set_option maxHeartbeats 8000000 in
set_option maxRecDepth 100000 in
theorem v129_2 {L : Nat} {xs : Nat → Int32} {Q : Option Value → Hp → Prop} {h : Hp} {l1 : Int32} {l2 : Int32} (hw : HW h) 
  (H : (((gI h 397 1) ≤ l2) → (Q (some (.int (-1))) h)) ∧ (¬ ((gI h 397 1) ≤ l2) → (∃ k4 : Nat, l2 = nI k4 ∧ k4 < 8 ∧ (((gI h 400 k4) = l1) → (Q (some (.int l2)) h)) ∧ (¬ ((gI h 400 k4) = l1) → (WP L xs 129 2 [some (.ref 397), some (.int l1), some (.int (l2 + 1))] [] h Q))))) : WP L xs 129 2 [some (.ref 397), some (.int l1), some (.int l2)] [] h Q := by
  refine e_ld (pc' := 3) i129_2 rfl rfl ?_
  refine e_ld (pc' := 4) i129_3 rfl rfl ?_
  refine e_get (w := .int (gI h 397 1)) (pc' := 7) i129_4 rfl (x_isC (by decide) hw.1 sh397) rfl ?_
  refine e_ic (pc' := 10) i129_7 rfl (fun c1 => ?_) (fun c1 => ?_)
  · have d2 : (gI h 397 1) ≤ l2 := (of_decide_eq_true c1)
    replace H := H.1 d2
    refine e_cn (pc' := 29) i129_28 rfl ?_
    refine e_rt i129_29 rfl ?_
    exact H
  · have d3 : ¬ ((gI h 397 1) ≤ l2) := (of_decide_eq_false c1)
    replace H := H.2 d3
    refine e_ld (pc' := 11) i129_10 rfl rfl ?_
    refine e_get (w := .ref 400) (pc' := 14) i129_11 rfl (x_isC (by decide) hw.1 sh397) (x_fvR (by decide +kernel) (hw.2 397 3 400 lk397_3)) ?_
    refine e_ld (pc' := 15) i129_14 rfl rfl ?_
    obtain ⟨k4, e5, g6, H⟩ := H
    refine e_al (n := k4) (w := .int (gI h 400 k4)) (pc' := 16) i129_15 rfl (x_alE (a := 20) (by decide) hw.1 sh400 (by decide) e5 g6 (by decide)) (x_clE e5 g6 (by decide)) rfl ?_
    refine e_ld (pc' := 17) i129_16 rfl rfl ?_
    refine e_ic (pc' := 20) i129_17 rfl (fun c7 => ?_) (fun c7 => ?_)
    · have d8 : ¬ ((gI h 400 k4) = l1) := (of_decide_eq_true c7)
      replace H := H.2 d8
      refine e_inc (z := l2 + 1) (ls' := [some (.ref 397), some (.int l1), some (.int (l2 + 1))]) (pc' := 25) i129_22 rfl rfl rfl rfl ?_
      refine e_go i129_25 ?_
      exact H
    · have d9 : (gI h 400 k4) = l1 := (Decidable.not_not.mp (of_decide_eq_false c7))
      replace H := H.1 d9
      refine e_ld (pc' := 21) i129_20 rfl rfl ?_
      refine e_rt i129_21 rfl ?_
      exact H
-- FloorTurnModel.recipe(IIIIIIII)I
set_option maxHeartbeats 8000000 in
set_option maxRecDepth 100000 in
theorem v130 {L : Nat} {xs : Nat → Int32} {Q : Option Value → Hp → Prop} {h : Hp} {x : Int32} {y : Int32} {z : Int32} {u : Int32} {v : Int32} {w : Int32} {t : Int32} {a : Int32} (hw : HW h) 
  (H : (((if (if (x_isItem x) = true then (if (x_in3 y 1 4) = true then (if (x_in3 z 1 60) = true then (if (x_isItem u) = true then (if (x_in3 v 1 4) = true then (if (x_in3 a 0 100) = true then (true) else (false)) else (false)) else (false)) else (false)) else (false)) else (false)) = true then (if w = 0 then (if u = x then (false) else (if w = x then (false) else (if u = w then (false) else (true)))) else (if (x_isItem w) = true then (if (x_in3 t 1 4) = true then (if u = x then (false) else (if w = x then (false) else (if u = w then (false) else (true)))) else (false)) else (false))) else (false)) = true) → (∃ (r73 : Int32), Sp L xs 129 [.ref 397, .int x] h (some (.int r73)) h ∧ ((r73 = (-1)) → ((((gI h 397 1) = 8) → (∃ (r103 : Int32) (h101 : Hp), Sp L xs 124 [.ref 397, .int (-7)] h (some (.int r103)) h101 ∧ Q (some (.int r103)) h101)) ∧ (¬ ((gI h 397 1) = 8) → (∃ k78 : Nat, (gI h 397 1) = nI k78 ∧ k78 < 8 ∧ ∃ k84 : Nat, (2 * (gI h 397 1)) = nI k84 ∧ k84 < 16 ∧ ∃ k89 : Nat, ((2 * (gI h 397 1)) + 1) = nI k89 ∧ k89 < 16 ∧ Q (some (.int ((gI (sI (sI (sI (sI (sI (sI (sI (sI (sI h 400 k78 x) 399 k78 y) 401 k78 z) 402 k84 u) 403 k84 v) 402 k89 w) 403 k89 (if w = 0 then (0) else (t))) 404 k78 a) 397 1 ((gI h 397 1) + 1)) 397 1) - 1))) (sI (sI (sI (sI (sI (sI (sI (sI (sI h 400 k78 x) 399 k78 y) 401 k78 z) 402 k84 u) 403 k84 v) 402 k89 w) 403 k89 (if w = 0 then (0) else (t))) 404 k78 a) 397 1 ((gI h 397 1) + 1)))))) ∧ (¬ (r73 = (-1)) → (∃ (r108 : Int32) (h106 : Hp), Sp L xs 124 [.ref 397, .int (-6)] h (some (.int r108)) h106 ∧ Q (some (.int r108)) h106)))) ∧ (¬ ((if (if (x_isItem x) = true then (if (x_in3 y 1 4) = true then (if (x_in3 z 1 60) = true then (if (x_isItem u) = true then (if (x_in3 v 1 4) = true then (if (x_in3 a 0 100) = true then (true) else (false)) else (false)) else (false)) else (false)) else (false)) else (false)) = true then (if w = 0 then (if u = x then (false) else (if w = x then (false) else (if u = w then (false) else (true)))) else (if (x_isItem w) = true then (if (x_in3 t 1 4) = true then (if u = x then (false) else (if w = x then (false) else (if u = w then (false) else (true)))) else (false)) else (false))) else (false)) = true) → (∃ (r69 : Int32) (h67 : Hp), Sp L xs 124 [.ref 397, .int (-6)] h (some (.int r69)) h67 ∧ Q (some (.int r69)) h67))) : ∃ r h', Sp L xs 130 [.ref 397, .int x, .int y, .int z, .int u, .int v, .int w, .int t, .int a] h r h' ∧ Q r h' := by
  refine sp_ex (ls := [some (.ref 397), some (.int x), some (.int y), some (.int z), some (.int u), some (.int v), some (.int w), some (.int t), some (.int a), none]) rfl ?_
  refine e_ld (pc' := 1) i130_0 rfl rfl ?_
  refine e_cI (w := .int (b2i (x_isItem x))) (As := [.int x]) (rest := []) (pc' := 4) i130_1 rfl rfl rfl rfl rfl m126 ?_
  refine e_reg (pc' := 60) (ls' := [some (.ref 397), some (.int x), some (.int y), some (.int z), some (.int u), some (.int v), some (.int w), some (.int t), some (.int a), none]) (st' := [.int (b2i (if (x_isItem x) = true then (if (x_in3 y 1 4) = true then (if (x_in3 z 1 60) = true then (if (x_isItem u) = true then (if (x_in3 v 1 4) = true then (if (x_in3 a 0 100) = true then (true) else (false)) else (false)) else (false)) else (false)) else (false)) else (false)))]) (fun kj1 => ?_) ?_
  · skip
    refine e_b0 (pc' := 7) i130_4 rfl (fun c2 => ?_) (fun c2 => ?_)
    · have d3 : ¬ ((x_isItem x) = true) := (show ¬ (x_isItem x) = true by rw [c2]; decide)
      refine e_cn (pc' := 60) i130_59 rfl ?_
      exact (by simp only [if_neg d3] at kj1 ⊢; exact kj1)
    · have d4 : (x_isItem x) = true := c2
      refine e_ld (pc' := 8) i130_7 rfl rfl ?_
      refine e_cn (pc' := 9) i130_8 rfl ?_
      refine e_cn (pc' := 10) i130_9 rfl ?_
      refine e_cI (w := .int (b2i (x_in3 y 1 4))) (As := [.int y, .int 1, .int 4]) (rest := []) (pc' := 13) i130_10 rfl rfl rfl rfl rfl m123 ?_
      refine e_reg (pc' := 60) (ls' := [some (.ref 397), some (.int x), some (.int y), some (.int z), some (.int u), some (.int v), some (.int w), some (.int t), some (.int a), none]) (st' := [.int (b2i (if (x_in3 y 1 4) = true then (if (x_in3 z 1 60) = true then (if (x_isItem u) = true then (if (x_in3 v 1 4) = true then (if (x_in3 a 0 100) = true then (true) else (false)) else (false)) else (false)) else (false)) else (false)))]) (fun kj5 => ?_) ?_
      · skip
        refine e_b0 (pc' := 16) i130_13 rfl (fun c6 => ?_) (fun c6 => ?_)
        · have d7 : ¬ ((x_in3 y 1 4) = true) := (show ¬ (x_in3 y 1 4) = true by rw [c6]; decide)
          refine e_cn (pc' := 60) i130_59 rfl ?_
          exact (by simp only [if_neg d7] at kj5 ⊢; exact kj5)
        · have d8 : (x_in3 y 1 4) = true := c6
          refine e_ld (pc' := 17) i130_16 rfl rfl ?_
          refine e_cn (pc' := 18) i130_17 rfl ?_
          refine e_cn (pc' := 20) i130_18 rfl ?_
          refine e_cI (w := .int (b2i (x_in3 z 1 60))) (As := [.int z, .int 1, .int 60]) (rest := []) (pc' := 23) i130_20 rfl rfl rfl rfl rfl m123 ?_
          refine e_reg (pc' := 60) (ls' := [some (.ref 397), some (.int x), some (.int y), some (.int z), some (.int u), some (.int v), some (.int w), some (.int t), some (.int a), none]) (st' := [.int (b2i (if (x_in3 z 1 60) = true then (if (x_isItem u) = true then (if (x_in3 v 1 4) = true then (if (x_in3 a 0 100) = true then (true) else (false)) else (false)) else (false)) else (false)))]) (fun kj9 => ?_) ?_
          · skip
            refine e_b0 (pc' := 26) i130_23 rfl (fun c10 => ?_) (fun c10 => ?_)
            · have d11 : ¬ ((x_in3 z 1 60) = true) := (show ¬ (x_in3 z 1 60) = true by rw [c10]; decide)
              refine e_cn (pc' := 60) i130_59 rfl ?_
              exact (by simp only [if_neg d11] at kj9 ⊢; exact kj9)
            · have d12 : (x_in3 z 1 60) = true := c10
              refine e_ld (pc' := 28) i130_26 rfl rfl ?_
              refine e_cI (w := .int (b2i (x_isItem u))) (As := [.int u]) (rest := []) (pc' := 31) i130_28 rfl rfl rfl rfl rfl m126 ?_
              refine e_reg (pc' := 60) (ls' := [some (.ref 397), some (.int x), some (.int y), some (.int z), some (.int u), some (.int v), some (.int w), some (.int t), some (.int a), none]) (st' := [.int (b2i (if (x_isItem u) = true then (if (x_in3 v 1 4) = true then (if (x_in3 a 0 100) = true then (true) else (false)) else (false)) else (false)))]) (fun kj13 => ?_) ?_
              · skip
                refine e_b0 (pc' := 34) i130_31 rfl (fun c14 => ?_) (fun c14 => ?_)
                · have d15 : ¬ ((x_isItem u) = true) := (show ¬ (x_isItem u) = true by rw [c14]; decide)
                  refine e_cn (pc' := 60) i130_59 rfl ?_
                  exact (by simp only [if_neg d15] at kj13 ⊢; exact kj13)
                · have d16 : (x_isItem u) = true := c14
                  refine e_ld (pc' := 36) i130_34 rfl rfl ?_
                  refine e_cn (pc' := 37) i130_36 rfl ?_
                  refine e_cn (pc' := 38) i130_37 rfl ?_
                  refine e_cI (w := .int (b2i (x_in3 v 1 4))) (As := [.int v, .int 1, .int 4]) (rest := []) (pc' := 41) i130_38 rfl rfl rfl rfl rfl m123 ?_
                  refine e_reg (pc' := 60) (ls' := [some (.ref 397), some (.int x), some (.int y), some (.int z), some (.int u), some (.int v), some (.int w), some (.int t), some (.int a), none]) (st' := [.int (b2i (if (x_in3 v 1 4) = true then (if (x_in3 a 0 100) = true then (true) else (false)) else (false)))]) (fun kj17 => ?_) ?_
                  · skip
                    refine e_b0 (pc' := 44) i130_41 rfl (fun c18 => ?_) (fun c18 => ?_)
                    · have d19 : ¬ ((x_in3 v 1 4) = true) := (show ¬ (x_in3 v 1 4) = true by rw [c18]; decide)
                      refine e_cn (pc' := 60) i130_59 rfl ?_
                      exact (by simp only [if_neg d19] at kj17 ⊢; exact kj17)
                    · have d20 : (x_in3 v 1 4) = true := c18
                      refine e_ld (pc' := 46) i130_44 rfl rfl ?_
                      refine e_cn (pc' := 47) i130_46 rfl ?_
                      refine e_cn (pc' := 49) i130_47 rfl ?_
                      refine e_cI (w := .int (b2i (x_in3 a 0 100))) (As := [.int a, .int 0, .int 100]) (rest := []) (pc' := 52) i130_49 rfl rfl rfl rfl rfl m123 ?_
                      refine e_reg (pc' := 60) (ls' := [some (.ref 397), some (.int x), some (.int y), some (.int z), some (.int u), some (.int v), some (.int w), some (.int t), some (.int a), none]) (st' := [.int (b2i (if (x_in3 a 0 100) = true then (true) else (false)))]) (fun kj21 => ?_) ?_
                      · skip
                        refine e_b0 (pc' := 55) i130_52 rfl (fun c22 => ?_) (fun c22 => ?_)
                        · have d23 : ¬ ((x_in3 a 0 100) = true) := (show ¬ (x_in3 a 0 100) = true by rw [c22]; decide)
                          refine e_cn (pc' := 60) i130_59 rfl ?_
                          exact (by simp only [if_neg d23] at kj21 ⊢; exact kj21)
                        · have d24 : (x_in3 a 0 100) = true := c22
                          refine e_cn (pc' := 56) i130_55 rfl ?_
                          refine e_go i130_56 ?_
                          exact (by simp only [if_pos d24] at kj21 ⊢; exact kj21)
                      exact (by simp only [if_pos d20] at kj17 ⊢; exact kj17)
                  exact (by simp only [if_pos d16] at kj13 ⊢; exact kj13)
              exact (by simp only [if_pos d12] at kj9 ⊢; exact kj9)
          exact (by simp only [if_pos d8] at kj5 ⊢; exact kj5)
      exact (by simp only [if_pos d4] at kj1 ⊢; exact kj1)
  refine e_st (ls' := [some (.ref 397), some (.int x), some (.int y), some (.int z), some (.int u), some (.int v), some (.int w), some (.int t), some (.int a), some (.int (b2i (if (x_isItem x) = true then (if (x_in3 y 1 4) = true then (if (x_in3 z 1 60) = true then (if (x_isItem u) = true then (if (x_in3 v 1 4) = true then (if (x_in3 a 0 100) = true then (true) else (false)) else (false)) else (false)) else (false)) else (false)) else (false))))]) (pc' := 62) i130_60 rfl rfl rfl ?_
  refine e_ld (pc' := 64) i130_62 rfl rfl ?_
  refine e_reg (pc' := 114) (ls' := [some (.ref 397), some (.int x), some (.int y), some (.int z), some (.int u), some (.int v), some (.int w), some (.int t), some (.int a), some (.int (b2i (if (x_isItem x) = true then (if (x_in3 y 1 4) = true then (if (x_in3 z 1 60) = true then (if (x_isItem u) = true then (if (x_in3 v 1 4) = true then (if (x_in3 a 0 100) = true then (true) else (false)) else (false)) else (false)) else (false)) else (false)) else (false))))]) (st' := [.int (b2i (if (if (x_isItem x) = true then (if (x_in3 y 1 4) = true then (if (x_in3 z 1 60) = true then (if (x_isItem u) = true then (if (x_in3 v 1 4) = true then (if (x_in3 a 0 100) = true then (true) else (false)) else (false)) else (false)) else (false)) else (false)) else (false)) = true then (if w = 0 then (if u = x then (false) else (if w = x then (false) else (if u = w then (false) else (true)))) else (if (x_isItem w) = true then (if (x_in3 t 1 4) = true then (if u = x then (false) else (if w = x then (false) else (if u = w then (false) else (true)))) else (false)) else (false))) else (false)))]) (fun kj25 => ?_) ?_
  · skip
    refine e_b0 (pc' := 67) i130_64 rfl (fun c26 => ?_) (fun c26 => ?_)
    · have d27 : ¬ ((if (x_isItem x) = true then (if (x_in3 y 1 4) = true then (if (x_in3 z 1 60) = true then (if (x_isItem u) = true then (if (x_in3 v 1 4) = true then (if (x_in3 a 0 100) = true then (true) else (false)) else (false)) else (false)) else (false)) else (false)) else (false)) = true) := (show ¬ (if (x_isItem x) = true then (if (x_in3 y 1 4) = true then (if (x_in3 z 1 60) = true then (if (x_isItem u) = true then (if (x_in3 v 1 4) = true then (if (x_in3 a 0 100) = true then (true) else (false)) else (false)) else (false)) else (false)) else (false)) else (false)) = true by rw [c26]; decide)
      refine e_cn (pc' := 114) i130_113 rfl ?_
      exact (by simp only [if_neg d27] at kj25 ⊢; exact kj25)
    · have d28 : (if (x_isItem x) = true then (if (x_in3 y 1 4) = true then (if (x_in3 z 1 60) = true then (if (x_isItem u) = true then (if (x_in3 v 1 4) = true then (if (x_in3 a 0 100) = true then (true) else (false)) else (false)) else (false)) else (false)) else (false)) else (false)) = true := c26
      refine e_ld (pc' := 69) i130_67 rfl rfl ?_
      refine e_reg (pc' := 114) (ls' := [some (.ref 397), some (.int x), some (.int y), some (.int z), some (.int u), some (.int v), some (.int w), some (.int t), some (.int a), some (.int (b2i (if (x_isItem x) = true then (if (x_in3 y 1 4) = true then (if (x_in3 z 1 60) = true then (if (x_isItem u) = true then (if (x_in3 v 1 4) = true then (if (x_in3 a 0 100) = true then (true) else (false)) else (false)) else (false)) else (false)) else (false)) else (false))))]) (st' := [.int (b2i (if w = 0 then (if u = x then (false) else (if w = x then (false) else (if u = w then (false) else (true)))) else (if (x_isItem w) = true then (if (x_in3 t 1 4) = true then (if u = x then (false) else (if w = x then (false) else (if u = w then (false) else (true)))) else (false)) else (false))))]) (fun kj29 => ?_) ?_
      · skip
        refine e_if (pc' := 72) i130_69 rfl (fun c30 => ?_) (fun c30 => ?_)
        · have d31 : w = 0 := (of_decide_eq_true c30)
          refine e_ld (pc' := 92) i130_90 rfl rfl ?_
          refine e_ld (pc' := 93) i130_92 rfl rfl ?_
          refine e_reg (pc' := 114) (ls' := [some (.ref 397), some (.int x), some (.int y), some (.int z), some (.int u), some (.int v), some (.int w), some (.int t), some (.int a), some (.int (b2i (if (x_isItem x) = true then (if (x_in3 y 1 4) = true then (if (x_in3 z 1 60) = true then (if (x_isItem u) = true then (if (x_in3 v 1 4) = true then (if (x_in3 a 0 100) = true then (true) else (false)) else (false)) else (false)) else (false)) else (false)) else (false))))]) (st' := [.int (b2i (if u = x then (false) else (if w = x then (false) else (if u = w then (false) else (true)))))]) (fun kj32 => ?_) ?_
          · skip
            refine e_ic (pc' := 96) i130_93 rfl (fun c33 => ?_) (fun c33 => ?_)
            · have d34 : u = x := (of_decide_eq_true c33)
              refine e_cn (pc' := 114) i130_113 rfl ?_
              exact (by simp only [if_pos d34] at kj32 ⊢; exact kj32)
            · have d35 : ¬ (u = x) := (of_decide_eq_false c33)
              refine e_ld (pc' := 98) i130_96 rfl rfl ?_
              refine e_ld (pc' := 99) i130_98 rfl rfl ?_
              refine e_reg (pc' := 114) (ls' := [some (.ref 397), some (.int x), some (.int y), some (.int z), some (.int u), some (.int v), some (.int w), some (.int t), some (.int a), some (.int (b2i (if (x_isItem x) = true then (if (x_in3 y 1 4) = true then (if (x_in3 z 1 60) = true then (if (x_isItem u) = true then (if (x_in3 v 1 4) = true then (if (x_in3 a 0 100) = true then (true) else (false)) else (false)) else (false)) else (false)) else (false)) else (false))))]) (st' := [.int (b2i (if w = x then (false) else (if u = w then (false) else (true))))]) (fun kj36 => ?_) ?_
              · skip
                refine e_ic (pc' := 102) i130_99 rfl (fun c37 => ?_) (fun c37 => ?_)
                · have d38 : w = x := (of_decide_eq_true c37)
                  refine e_cn (pc' := 114) i130_113 rfl ?_
                  exact (by simp only [if_pos d38] at kj36 ⊢; exact kj36)
                · have d39 : ¬ (w = x) := (of_decide_eq_false c37)
                  refine e_ld (pc' := 104) i130_102 rfl rfl ?_
                  refine e_ld (pc' := 106) i130_104 rfl rfl ?_
                  refine e_reg (pc' := 114) (ls' := [some (.ref 397), some (.int x), some (.int y), some (.int z), some (.int u), some (.int v), some (.int w), some (.int t), some (.int a), some (.int (b2i (if (x_isItem x) = true then (if (x_in3 y 1 4) = true then (if (x_in3 z 1 60) = true then (if (x_isItem u) = true then (if (x_in3 v 1 4) = true then (if (x_in3 a 0 100) = true then (true) else (false)) else (false)) else (false)) else (false)) else (false)) else (false))))]) (st' := [.int (b2i (if u = w then (false) else (true)))]) (fun kj40 => ?_) ?_
                  · skip
                    refine e_ic (pc' := 109) i130_106 rfl (fun c41 => ?_) (fun c41 => ?_)
                    · have d42 : u = w := (of_decide_eq_true c41)
                      refine e_cn (pc' := 114) i130_113 rfl ?_
                      exact (by simp only [if_pos d42] at kj40 ⊢; exact kj40)
                    · have d43 : ¬ (u = w) := (of_decide_eq_false c41)
                      refine e_cn (pc' := 110) i130_109 rfl ?_
                      refine e_go i130_110 ?_
                      exact (by simp only [if_neg d43] at kj40 ⊢; exact kj40)
                  exact (by simp only [if_neg d39] at kj36 ⊢; exact kj36)
              exact (by simp only [if_neg d35] at kj32 ⊢; exact kj32)
          exact (by simp only [if_pos d31] at kj29 ⊢; exact kj29)
        · have d44 : ¬ (w = 0) := (of_decide_eq_false c30)
          refine e_ld (pc' := 74) i130_72 rfl rfl ?_
          refine e_cI (w := .int (b2i (x_isItem w))) (As := [.int w]) (rest := []) (pc' := 77) i130_74 rfl rfl rfl rfl rfl m126 ?_
          refine e_reg (pc' := 114) (ls' := [some (.ref 397), some (.int x), some (.int y), some (.int z), some (.int u), some (.int v), some (.int w), some (.int t), some (.int a), some (.int (b2i (if (x_isItem x) = true then (if (x_in3 y 1 4) = true then (if (x_in3 z 1 60) = true then (if (x_isItem u) = true then (if (x_in3 v 1 4) = true then (if (x_in3 a 0 100) = true then (true) else (false)) else (false)) else (false)) else (false)) else (false)) else (false))))]) (st' := [.int (b2i (if (x_isItem w) = true then (if (x_in3 t 1 4) = true then (if u = x then (false) else (if w = x then (false) else (if u = w then (false) else (true)))) else (false)) else (false)))]) (fun kj45 => ?_) ?_
          · skip
            refine e_b0 (pc' := 80) i130_77 rfl (fun c46 => ?_) (fun c46 => ?_)
            · have d47 : ¬ ((x_isItem w) = true) := (show ¬ (x_isItem w) = true by rw [c46]; decide)
              refine e_cn (pc' := 114) i130_113 rfl ?_
              exact (by simp only [if_neg d47] at kj45 ⊢; exact kj45)
            · have d48 : (x_isItem w) = true := c46
              refine e_ld (pc' := 82) i130_80 rfl rfl ?_
              refine e_cn (pc' := 83) i130_82 rfl ?_
              refine e_cn (pc' := 84) i130_83 rfl ?_
              refine e_cI (w := .int (b2i (x_in3 t 1 4))) (As := [.int t, .int 1, .int 4]) (rest := []) (pc' := 87) i130_84 rfl rfl rfl rfl rfl m123 ?_
              refine e_reg (pc' := 114) (ls' := [some (.ref 397), some (.int x), some (.int y), some (.int z), some (.int u), some (.int v), some (.int w), some (.int t), some (.int a), some (.int (b2i (if (x_isItem x) = true then (if (x_in3 y 1 4) = true then (if (x_in3 z 1 60) = true then (if (x_isItem u) = true then (if (x_in3 v 1 4) = true then (if (x_in3 a 0 100) = true then (true) else (false)) else (false)) else (false)) else (false)) else (false)) else (false))))]) (st' := [.int (b2i (if (x_in3 t 1 4) = true then (if u = x then (false) else (if w = x then (false) else (if u = w then (false) else (true)))) else (false)))]) (fun kj49 => ?_) ?_
              · skip
                refine e_b0 (pc' := 90) i130_87 rfl (fun c50 => ?_) (fun c50 => ?_)
                · have d51 : ¬ ((x_in3 t 1 4) = true) := (show ¬ (x_in3 t 1 4) = true by rw [c50]; decide)
                  refine e_cn (pc' := 114) i130_113 rfl ?_
                  exact (by simp only [if_neg d51] at kj49 ⊢; exact kj49)
                · have d52 : (x_in3 t 1 4) = true := c50
                  refine e_ld (pc' := 92) i130_90 rfl rfl ?_
                  refine e_ld (pc' := 93) i130_92 rfl rfl ?_
                  refine e_reg (pc' := 114) (ls' := [some (.ref 397), some (.int x), some (.int y), some (.int z), some (.int u), some (.int v), some (.int w), some (.int t), some (.int a), some (.int (b2i (if (x_isItem x) = true then (if (x_in3 y 1 4) = true then (if (x_in3 z 1 60) = true then (if (x_isItem u) = true then (if (x_in3 v 1 4) = true then (if (x_in3 a 0 100) = true then (true) else (false)) else (false)) else (false)) else (false)) else (false)) else (false))))]) (st' := [.int (b2i (if u = x then (false) else (if w = x then (false) else (if u = w then (false) else (true)))))]) (fun kj53 => ?_) ?_
                  · skip
                    refine e_ic (pc' := 96) i130_93 rfl (fun c54 => ?_) (fun c54 => ?_)
                    · have d55 : u = x := (of_decide_eq_true c54)
                      refine e_cn (pc' := 114) i130_113 rfl ?_
                      exact (by simp only [if_pos d55] at kj53 ⊢; exact kj53)
                    · have d56 : ¬ (u = x) := (of_decide_eq_false c54)
                      refine e_ld (pc' := 98) i130_96 rfl rfl ?_
                      refine e_ld (pc' := 99) i130_98 rfl rfl ?_
                      refine e_reg (pc' := 114) (ls' := [some (.ref 397), some (.int x), some (.int y), some (.int z), some (.int u), some (.int v), some (.int w), some (.int t), some (.int a), some (.int (b2i (if (x_isItem x) = true then (if (x_in3 y 1 4) = true then (if (x_in3 z 1 60) = true then (if (x_isItem u) = true then (if (x_in3 v 1 4) = true then (if (x_in3 a 0 100) = true then (true) else (false)) else (false)) else (false)) else (false)) else (false)) else (false))))]) (st' := [.int (b2i (if w = x then (false) else (if u = w then (false) else (true))))]) (fun kj57 => ?_) ?_
                      · skip
                        refine e_ic (pc' := 102) i130_99 rfl (fun c58 => ?_) (fun c58 => ?_)
                        · have d59 : w = x := (of_decide_eq_true c58)
                          refine e_cn (pc' := 114) i130_113 rfl ?_
                          exact (by simp only [if_pos d59] at kj57 ⊢; exact kj57)
                        · have d60 : ¬ (w = x) := (of_decide_eq_false c58)
                          refine e_ld (pc' := 104) i130_102 rfl rfl ?_
                          refine e_ld (pc' := 106) i130_104 rfl rfl ?_
                          refine e_reg (pc' := 114) (ls' := [some (.ref 397), some (.int x), some (.int y), some (.int z), some (.int u), some (.int v), some (.int w), some (.int t), some (.int a), some (.int (b2i (if (x_isItem x) = true then (if (x_in3 y 1 4) = true then (if (x_in3 z 1 60) = true then (if (x_isItem u) = true then (if (x_in3 v 1 4) = true then (if (x_in3 a 0 100) = true then (true) else (false)) else (false)) else (false)) else (false)) else (false)) else (false))))]) (st' := [.int (b2i (if u = w then (false) else (true)))]) (fun kj61 => ?_) ?_
                          · skip
                            refine e_ic (pc' := 109) i130_106 rfl (fun c62 => ?_) (fun c62 => ?_)
                            · have d63 : u = w := (of_decide_eq_true c62)
                              refine e_cn (pc' := 114) i130_113 rfl ?_
                              exact (by simp only [if_pos d63] at kj61 ⊢; exact kj61)
                            · have d64 : ¬ (u = w) := (of_decide_eq_false c62)
                              refine e_cn (pc' := 110) i130_109 rfl ?_
                              refine e_go i130_110 ?_
                              exact (by simp only [if_neg d64] at kj61 ⊢; exact kj61)
                          exact (by simp only [if_neg d60] at kj57 ⊢; exact kj57)
                      exact (by simp only [if_neg d56] at kj53 ⊢; exact kj53)
                  exact (by simp only [if_pos d52] at kj49 ⊢; exact kj49)
              exact (by simp only [if_pos d48] at kj45 ⊢; exact kj45)
          exact (by simp only [if_neg d44] at kj29 ⊢; exact kj29)
      exact (by simp only [if_pos d28] at kj25 ⊢; exact kj25)
  refine e_st (ls' := [some (.ref 397), some (.int x), some (.int y), some (.int z), some (.int u), some (.int v), some (.int w), some (.int t), some (.int a), some (.int (b2i (if (if (x_isItem x) = true then (if (x_in3 y 1 4) = true then (if (x_in3 z 1 60) = true then (if (x_isItem u) = true then (if (x_in3 v 1 4) = true then (if (x_in3 a 0 100) = true then (true) else (false)) else (false)) else (false)) else (false)) else (false)) else (false)) = true then (if w = 0 then (if u = x then (false) else (if w = x then (false) else (if u = w then (false) else (true)))) else (if (x_isItem w) = true then (if (x_in3 t 1 4) = true then (if u = x then (false) else (if w = x then (false) else (if u = w then (false) else (true)))) else (false)) else (false))) else (false))))]) (pc' := 116) i130_114 rfl rfl rfl ?_
  refine e_ld (pc' := 118) i130_116 rfl rfl ?_
  refine e_b0 (pc' := 121) i130_118 rfl (fun c65 => ?_) (fun c65 => ?_)
  · have d66 : ¬ ((if (if (x_isItem x) = true then (if (x_in3 y 1 4) = true then (if (x_in3 z 1 60) = true then (if (x_isItem u) = true then (if (x_in3 v 1 4) = true then (if (x_in3 a 0 100) = true then (true) else (false)) else (false)) else (false)) else (false)) else (false)) else (false)) = true then (if w = 0 then (if u = x then (false) else (if w = x then (false) else (if u = w then (false) else (true)))) else (if (x_isItem w) = true then (if (x_in3 t 1 4) = true then (if u = x then (false) else (if w = x then (false) else (if u = w then (false) else (true)))) else (false)) else (false))) else (false)) = true) := (show ¬ (if (if (x_isItem x) = true then (if (x_in3 y 1 4) = true then (if (x_in3 z 1 60) = true then (if (x_isItem u) = true then (if (x_in3 v 1 4) = true then (if (x_in3 a 0 100) = true then (true) else (false)) else (false)) else (false)) else (false)) else (false)) else (false)) = true then (if w = 0 then (if u = x then (false) else (if w = x then (false) else (if u = w then (false) else (true)))) else (if (x_isItem w) = true then (if (x_in3 t 1 4) = true then (if u = x then (false) else (if w = x then (false) else (if u = w then (false) else (true)))) else (false)) else (false))) else (false)) = true by rw [c65]; decide)
    replace H := H.2 d66
    refine e_ld (pc' := 131) i130_130 rfl rfl ?_
    refine e_cn (pc' := 133) i130_131 rfl ?_
    obtain ⟨r69, h67, s68, H⟩ := H
    have w71q := HW_sp (show x_okm 124 = true by rfl) s68 hw
    have w71 : HW h67 := w71q.1
    refine e_cI (w := .int r69) (As := [.ref 397, .int (-6)]) (rest := []) (pc' := 136) i130_133 rfl rfl rfl rfl (by show (Nat.beq (x_kd 124) 0 && x_is 397 _ (MC 124) 0) = true; rw [show x_kd 124 = 0 by decide +kernel, show MC 124 = 11 by decide +kernel, (x_isC (by decide) hw.1 sh397)]; rfl) s68 ?_
    refine e_rt i130_136 rfl ?_
    exact H
  · have d71 : (if (if (x_isItem x) = true then (if (x_in3 y 1 4) = true then (if (x_in3 z 1 60) = true then (if (x_isItem u) = true then (if (x_in3 v 1 4) = true then (if (x_in3 a 0 100) = true then (true) else (false)) else (false)) else (false)) else (false)) else (false)) else (false)) = true then (if w = 0 then (if u = x then (false) else (if w = x then (false) else (if u = w then (false) else (true)))) else (if (x_isItem w) = true then (if (x_in3 t 1 4) = true then (if u = x then (false) else (if w = x then (false) else (if u = w then (false) else (true)))) else (false)) else (false))) else (false)) = true := c65
    replace H := H.1 d71
    refine e_ld (pc' := 122) i130_121 rfl rfl ?_
    refine e_ld (pc' := 123) i130_122 rfl rfl ?_
    obtain ⟨r73, s72, H⟩ := H
    refine e_cI (w := .int r73) (As := [.ref 397, .int x]) (rest := []) (pc' := 126) i130_123 rfl rfl rfl rfl (by show (Nat.beq (x_kd 129) 0 && x_is 397 _ (MC 129) 0) = true; rw [show x_kd 129 = 0 by decide +kernel, show MC 129 = 11 by decide +kernel, (x_isC (by decide) hw.1 sh397)]; rfl) s72 ?_
    refine e_cn (pc' := 127) i130_126 rfl ?_
    refine e_ic (pc' := 130) i130_127 rfl (fun c74 => ?_) (fun c74 => ?_)
    · have d75 : r73 = (-1) := (of_decide_eq_true c74)
      replace H := H.1 d75
      refine e_ld (pc' := 138) i130_137 rfl rfl ?_
      refine e_get (w := .int (gI h 397 1)) (pc' := 141) i130_138 rfl (x_isC (by decide) hw.1 sh397) rfl ?_
      refine e_cn (pc' := 143) i130_141 rfl ?_
      refine e_ic (pc' := 146) i130_143 rfl (fun c76 => ?_) (fun c76 => ?_)
      · have d77 : ¬ ((gI h 397 1) = 8) := (of_decide_eq_true c76)
        replace H := H.2 d77
        refine e_ld (pc' := 154) i130_153 rfl rfl ?_
        refine e_get (w := .ref 400) (pc' := 157) i130_154 rfl (x_isC (by decide) hw.1 sh397) (x_fvR (by decide +kernel) (hw.2 397 3 400 lk397_3)) ?_
        refine e_ld (pc' := 158) i130_157 rfl rfl ?_
        refine e_get (w := .int (gI h 397 1)) (pc' := 161) i130_158 rfl (x_isC (by decide) hw.1 sh397) rfl ?_
        refine e_ld (pc' := 162) i130_161 rfl rfl ?_
        obtain ⟨k78, e79, g80, H⟩ := H
        refine e_as (n := k78) (h' := sI h 400 k78 x) (pc' := 163) i130_162 rfl (x_alE (a := 20) (by decide) hw.1 sh400 (by decide) e79 g80 (by decide)) (x_clE e79 g80 (by decide)) (by rw [(show (SH 400).1 = 20 by rw [sh400])]; rfl) ?_
        have w82 : HW (sI h 400 k78 x) := HW_sI hw
        refine e_ld (pc' := 164) i130_163 rfl rfl ?_
        refine e_get (w := .ref 399) (pc' := 167) i130_164 rfl (x_isC (by decide) w82.1 sh397) (x_fvR (by decide +kernel) (w82.2 397 2 399 lk397_2)) ?_
        refine e_ld (pc' := 168) i130_167 rfl rfl ?_
        refine e_get (w := .int (gI h 397 1)) (pc' := 171) i130_168 rfl (x_isC (by decide) w82.1 sh397) (congrArg Value.int (gI_osI (by decide))) ?_
        refine e_ld (pc' := 172) i130_171 rfl rfl ?_
        refine e_as (n := k78) (h' := sI (sI h 400 k78 x) 399 k78 y) (pc' := 173) i130_172 rfl (x_alE (a := 20) (by decide) w82.1 sh399 (by decide) e79 g80 (by decide)) (x_clE e79 g80 (by decide)) (by rw [(show (SH 399).1 = 20 by rw [sh399])]; rfl) ?_
        have w84 : HW (sI (sI h 400 k78 x) 399 k78 y) := HW_sI w82
        refine e_ld (pc' := 174) i130_173 rfl rfl ?_
        refine e_get (w := .ref 401) (pc' := 177) i130_174 rfl (x_isC (by decide) w84.1 sh397) (x_fvR (by decide +kernel) (w84.2 397 4 401 lk397_4)) ?_
        refine e_ld (pc' := 178) i130_177 rfl rfl ?_
        refine e_get (w := .int (gI h 397 1)) (pc' := 181) i130_178 rfl (x_isC (by decide) w84.1 sh397) (congrArg Value.int (Eq.trans (gI_osI (by decide)) (gI_osI (by decide)))) ?_
        refine e_ld (pc' := 182) i130_181 rfl rfl ?_
        refine e_as (n := k78) (h' := sI (sI (sI h 400 k78 x) 399 k78 y) 401 k78 z) (pc' := 183) i130_182 rfl (x_alE (a := 20) (by decide) w84.1 sh401 (by decide) e79 g80 (by decide)) (x_clE e79 g80 (by decide)) (by rw [(show (SH 401).1 = 20 by rw [sh401])]; rfl) ?_
        have w86 : HW (sI (sI (sI h 400 k78 x) 399 k78 y) 401 k78 z) := HW_sI w84
        refine e_ld (pc' := 184) i130_183 rfl rfl ?_
        refine e_get (w := .ref 402) (pc' := 187) i130_184 rfl (x_isC (by decide) w86.1 sh397) (x_fvR (by decide +kernel) (w86.2 397 5 402 lk397_5)) ?_
        refine e_cn (pc' := 188) i130_187 rfl ?_
        refine e_ld (pc' := 189) i130_188 rfl rfl ?_
        refine e_get (w := .int (gI h 397 1)) (pc' := 192) i130_189 rfl (x_isC (by decide) w86.1 sh397) (congrArg Value.int (Eq.trans (gI_osI (by decide)) (Eq.trans (gI_osI (by decide)) (gI_osI (by decide))))) ?_
        refine e_ib (z := 2 * (gI h 397 1)) (pc' := 193) i130_192 rfl rfl ?_
        refine e_ld (pc' := 195) i130_193 rfl rfl ?_
        obtain ⟨k84, e85, g86, H⟩ := H
        refine e_as (n := k84) (h' := sI (sI (sI (sI h 400 k78 x) 399 k78 y) 401 k78 z) 402 k84 u) (pc' := 196) i130_195 rfl (x_alE (a := 20) (by decide) w86.1 sh402 (by decide) e85 g86 (by decide)) (x_clE e85 g86 (by decide)) (by rw [(show (SH 402).1 = 20 by rw [sh402])]; rfl) ?_
        have w91 : HW (sI (sI (sI (sI h 400 k78 x) 399 k78 y) 401 k78 z) 402 k84 u) := HW_sI w86
        refine e_ld (pc' := 197) i130_196 rfl rfl ?_
        refine e_get (w := .ref 403) (pc' := 200) i130_197 rfl (x_isC (by decide) w91.1 sh397) (x_fvR (by decide +kernel) (w91.2 397 6 403 lk397_6)) ?_
        refine e_cn (pc' := 201) i130_200 rfl ?_
        refine e_ld (pc' := 202) i130_201 rfl rfl ?_
        refine e_get (w := .int (gI h 397 1)) (pc' := 205) i130_202 rfl (x_isC (by decide) w91.1 sh397) (congrArg Value.int (Eq.trans (gI_osI (by decide)) (Eq.trans (gI_osI (by decide)) (Eq.trans (gI_osI (by decide)) (gI_osI (by decide)))))) ?_
        refine e_ib (z := 2 * (gI h 397 1)) (pc' := 206) i130_205 rfl rfl ?_
        refine e_ld (pc' := 208) i130_206 rfl rfl ?_
        refine e_as (n := k84) (h' := sI (sI (sI (sI (sI h 400 k78 x) 399 k78 y) 401 k78 z) 402 k84 u) 403 k84 v) (pc' := 209) i130_208 rfl (x_alE (a := 20) (by decide) w91.1 sh403 (by decide) e85 g86 (by decide)) (x_clE e85 g86 (by decide)) (by rw [(show (SH 403).1 = 20 by rw [sh403])]; rfl) ?_
        have w93 : HW (sI (sI (sI (sI (sI h 400 k78 x) 399 k78 y) 401 k78 z) 402 k84 u) 403 k84 v) := HW_sI w91
        refine e_ld (pc' := 210) i130_209 rfl rfl ?_
        refine e_get (w := .ref 402) (pc' := 213) i130_210 rfl (x_isC (by decide) w93.1 sh397) (x_fvR (by decide +kernel) (w93.2 397 5 402 lk397_5)) ?_
        refine e_cn (pc' := 214) i130_213 rfl ?_
        refine e_ld (pc' := 215) i130_214 rfl rfl ?_
        refine e_get (w := .int (gI h 397 1)) (pc' := 218) i130_215 rfl (x_isC (by decide) w93.1 sh397) (congrArg Value.int (Eq.trans (gI_osI (by decide)) (Eq.trans (gI_osI (by decide)) (Eq.trans (gI_osI (by decide)) (Eq.trans (gI_osI (by decide)) (gI_osI (by decide))))))) ?_
        refine e_ib (z := 2 * (gI h 397 1)) (pc' := 219) i130_218 rfl rfl ?_
        refine e_cn (pc' := 220) i130_219 rfl ?_
        refine e_ib (z := (2 * (gI h 397 1)) + 1) (pc' := 221) i130_220 rfl rfl ?_
        refine e_ld (pc' := 223) i130_221 rfl rfl ?_
        obtain ⟨k89, e90, g91, H⟩ := H
        refine e_as (n := k89) (h' := sI (sI (sI (sI (sI (sI h 400 k78 x) 399 k78 y) 401 k78 z) 402 k84 u) 403 k84 v) 402 k89 w) (pc' := 224) i130_223 rfl (x_alE (a := 20) (by decide) w93.1 sh402 (by decide) e90 g91 (by decide)) (x_clE e90 g91 (by decide)) (by rw [(show (SH 402).1 = 20 by rw [sh402])]; rfl) ?_
        have w98 : HW (sI (sI (sI (sI (sI (sI h 400 k78 x) 399 k78 y) 401 k78 z) 402 k84 u) 403 k84 v) 402 k89 w) := HW_sI w93
        refine e_ld (pc' := 225) i130_224 rfl rfl ?_
        refine e_get (w := .ref 403) (pc' := 228) i130_225 rfl (x_isC (by decide) w98.1 sh397) (x_fvR (by decide +kernel) (w98.2 397 6 403 lk397_6)) ?_
        refine e_cn (pc' := 229) i130_228 rfl ?_
        refine e_ld (pc' := 230) i130_229 rfl rfl ?_
        refine e_get (w := .int (gI h 397 1)) (pc' := 233) i130_230 rfl (x_isC (by decide) w98.1 sh397) (congrArg Value.int (Eq.trans (gI_osI (by decide)) (Eq.trans (gI_osI (by decide)) (Eq.trans (gI_osI (by decide)) (Eq.trans (gI_osI (by decide)) (Eq.trans (gI_osI (by decide)) (gI_osI (by decide)))))))) ?_
        refine e_ib (z := 2 * (gI h 397 1)) (pc' := 234) i130_233 rfl rfl ?_
        refine e_cn (pc' := 235) i130_234 rfl ?_
        refine e_ib (z := (2 * (gI h 397 1)) + 1) (pc' := 236) i130_235 rfl rfl ?_
        refine e_ld (pc' := 238) i130_236 rfl rfl ?_
        refine e_reg (pc' := 247) (ls' := [some (.ref 397), some (.int x), some (.int y), some (.int z), some (.int u), some (.int v), some (.int w), some (.int t), some (.int a), some (.int (b2i (if (if (x_isItem x) = true then (if (x_in3 y 1 4) = true then (if (x_in3 z 1 60) = true then (if (x_isItem u) = true then (if (x_in3 v 1 4) = true then (if (x_in3 a 0 100) = true then (true) else (false)) else (false)) else (false)) else (false)) else (false)) else (false)) = true then (if w = 0 then (if u = x then (false) else (if w = x then (false) else (if u = w then (false) else (true)))) else (if (x_isItem w) = true then (if (x_in3 t 1 4) = true then (if u = x then (false) else (if w = x then (false) else (if u = w then (false) else (true)))) else (false)) else (false))) else (false))))]) (st' := [.int (if w = 0 then (0) else (t)), .int ((2 * (gI h 397 1)) + 1), .ref 403]) (fun kj93 => ?_) ?_
        · skip
          refine e_if (pc' := 241) i130_238 rfl (fun c94 => ?_) (fun c94 => ?_)
          · have d95 : ¬ (w = 0) := (of_decide_eq_true c94)
            refine e_ld (pc' := 247) i130_245 rfl rfl ?_
            exact (by simp only [if_neg d95] at kj93 ⊢; exact kj93)
          · have d96 : w = 0 := (Decidable.not_not.mp (of_decide_eq_false c94))
            refine e_cn (pc' := 242) i130_241 rfl ?_
            refine e_go i130_242 ?_
            exact (by simp only [if_pos d96] at kj93 ⊢; exact kj93)
        refine e_as (n := k89) (h' := sI (sI (sI (sI (sI (sI (sI h 400 k78 x) 399 k78 y) 401 k78 z) 402 k84 u) 403 k84 v) 402 k89 w) 403 k89 (if w = 0 then (0) else (t))) (pc' := 248) i130_247 rfl (x_alE (a := 20) (by decide) w98.1 sh403 (by decide) e90 g91 (by decide)) (x_clE e90 g91 (by decide)) (by rw [(show (SH 403).1 = 20 by rw [sh403])]; rfl) ?_
        have w104 : HW (sI (sI (sI (sI (sI (sI (sI h 400 k78 x) 399 k78 y) 401 k78 z) 402 k84 u) 403 k84 v) 402 k89 w) 403 k89 (if w = 0 then (0) else (t))) := HW_sI w98
        refine e_ld (pc' := 249) i130_248 rfl rfl ?_
        refine e_get (w := .ref 404) (pc' := 252) i130_249 rfl (x_isC (by decide) w104.1 sh397) (x_fvR (by decide +kernel) (w104.2 397 7 404 lk397_7)) ?_
        refine e_ld (pc' := 253) i130_252 rfl rfl ?_
        refine e_get (w := .int (gI h 397 1)) (pc' := 256) i130_253 rfl (x_isC (by decide) w104.1 sh397) (congrArg Value.int (Eq.trans (gI_osI (by decide)) (Eq.trans (gI_osI (by decide)) (Eq.trans (gI_osI (by decide)) (Eq.trans (gI_osI (by decide)) (Eq.trans (gI_osI (by decide)) (Eq.trans (gI_osI (by decide)) (gI_osI (by decide))))))))) ?_
        refine e_ld (pc' := 258) i130_256 rfl rfl ?_
        refine e_as (n := k78) (h' := sI (sI (sI (sI (sI (sI (sI (sI h 400 k78 x) 399 k78 y) 401 k78 z) 402 k84 u) 403 k84 v) 402 k89 w) 403 k89 (if w = 0 then (0) else (t))) 404 k78 a) (pc' := 259) i130_258 rfl (x_alE (a := 20) (by decide) w104.1 sh404 (by decide) e79 g80 (by decide)) (x_clE e79 g80 (by decide)) (by rw [(show (SH 404).1 = 20 by rw [sh404])]; rfl) ?_
        have w106 : HW (sI (sI (sI (sI (sI (sI (sI (sI h 400 k78 x) 399 k78 y) 401 k78 z) 402 k84 u) 403 k84 v) 402 k89 w) 403 k89 (if w = 0 then (0) else (t))) 404 k78 a) := HW_sI w104
        refine e_ld (pc' := 260) i130_259 rfl rfl ?_
        refine e_stk (pc' := 261) i130_260 rfl rfl ?_
        refine e_get (w := .int (gI h 397 1)) (pc' := 264) i130_261 rfl (x_isC (by decide) w106.1 sh397) (congrArg Value.int (Eq.trans (gI_osI (by decide)) (Eq.trans (gI_osI (by decide)) (Eq.trans (gI_osI (by decide)) (Eq.trans (gI_osI (by decide)) (Eq.trans (gI_osI (by decide)) (Eq.trans (gI_osI (by decide)) (Eq.trans (gI_osI (by decide)) (gI_osI (by decide)))))))))) ?_
        refine e_cn (pc' := 265) i130_264 rfl ?_
        refine e_ib (z := (gI h 397 1) + 1) (pc' := 266) i130_265 rfl rfl ?_
        refine e_put (h' := sI (sI (sI (sI (sI (sI (sI (sI (sI h 400 k78 x) 399 k78 y) 401 k78 z) 402 k84 u) 403 k84 v) 402 k89 w) 403 k89 (if w = 0 then (0) else (t))) 404 k78 a) 397 1 ((gI h 397 1) + 1)) (pc' := 269) i130_266 rfl (x_isC (by decide) w106.1 sh397) rfl ?_
        have w108 : HW (sI (sI (sI (sI (sI (sI (sI (sI (sI h 400 k78 x) 399 k78 y) 401 k78 z) 402 k84 u) 403 k84 v) 402 k89 w) 403 k89 (if w = 0 then (0) else (t))) 404 k78 a) 397 1 ((gI h 397 1) + 1)) := HW_sI w106
        refine e_ld (pc' := 270) i130_269 rfl rfl ?_
        refine e_get (w := .int (gI (sI (sI (sI (sI (sI (sI (sI (sI (sI h 400 k78 x) 399 k78 y) 401 k78 z) 402 k84 u) 403 k84 v) 402 k89 w) 403 k89 (if w = 0 then (0) else (t))) 404 k78 a) 397 1 ((gI h 397 1) + 1)) 397 1)) (pc' := 273) i130_270 rfl (x_isC (by decide) w108.1 sh397) rfl ?_
        refine e_cn (pc' := 274) i130_273 rfl ?_
        refine e_ib (z := (gI (sI (sI (sI (sI (sI (sI (sI (sI (sI h 400 k78 x) 399 k78 y) 401 k78 z) 402 k84 u) 403 k84 v) 402 k89 w) 403 k89 (if w = 0 then (0) else (t))) 404 k78 a) 397 1 ((gI h 397 1) + 1)) 397 1) - 1) (pc' := 275) i130_274 rfl rfl ?_
        refine e_rt i130_275 rfl ?_
        exact H
      · have d100 : (gI h 397 1) = 8 := (Decidable.not_not.mp (of_decide_eq_false c76))
        replace H := H.1 d100
        refine e_ld (pc' := 147) i130_146 rfl rfl ?_
        refine e_cn (pc' := 149) i130_147 rfl ?_
        obtain ⟨r103, h101, s102, H⟩ := H
        have w105q := HW_sp (show x_okm 124 = true by rfl) s102 hw
        have w105 : HW h101 := w105q.1
        refine e_cI (w := .int r103) (As := [.ref 397, .int (-7)]) (rest := []) (pc' := 152) i130_149 rfl rfl rfl rfl (by show (Nat.beq (x_kd 124) 0 && x_is 397 _ (MC 124) 0) = true; rw [show x_kd 124 = 0 by decide +kernel, show MC 124 = 11 by decide +kernel, (x_isC (by decide) hw.1 sh397)]; rfl) s102 ?_
        refine e_rt i130_152 rfl ?_
        exact H
    · have d105 : ¬ (r73 = (-1)) := (of_decide_eq_false c74)
      replace H := H.2 d105
      refine e_ld (pc' := 131) i130_130 rfl rfl ?_
      refine e_cn (pc' := 133) i130_131 rfl ?_
      obtain ⟨r108, h106, s107, H⟩ := H
      have w110q := HW_sp (show x_okm 124 = true by rfl) s107 hw
      have w110 : HW h106 := w110q.1
      refine e_cI (w := .int r108) (As := [.ref 397, .int (-6)]) (rest := []) (pc' := 136) i130_133 rfl rfl rfl rfl (by show (Nat.beq (x_kd 124) 0 && x_is 397 _ (MC 124) 0) = true; rw [show x_kd 124 = 0 by decide +kernel, show MC 124 = 11 by decide +kernel, (x_isC (by decide) hw.1 sh397)]; rfl) s107 ?_
      refine e_rt i130_136 rfl ?_
      exact H
-- FloorTurnModel.built(IIIII)I
set_option maxHeartbeats 8000000 in
set_option maxRecDepth 100000 in
theorem v132 {L : Nat} {xs : Nat → Int32} {Q : Option Value → Hp → Prop} {h : Hp} {x : Int32} {y : Int32} {z : Int32} {u : Int32} {v : Int32} (hw : HW h) 
  (H : (((x_isCell x) = true) → (((y = 6) → ((((x_in3 u 0 ((gI h 397 1) - 1)) = true) → ((((if (if (x_in3 y 1 7) = true then (if y = 7 then (true) else (if y = 4 then (if (x_in3 z 1 15) = true then (if (x_in3 (mny z) 2 3) = true then (true) else (false)) else (false)) else (if (x_in3 z 0 3) = true then (true) else (false)))) else (false)) = true then (if y = 5 then (if (x_isItem u) = true then (if (x_in3 v 1 60) = true then (true) else (false)) else (false)) else (true)) else (false)) = true) → (∃ k102 : Nat, x = nI k102 ∧ k102 < 144 ∧ Q (some (.int (if (gI h 405 k102) = 0 then (1) else ((-6))))) h)) ∧ (¬ ((if (if (x_in3 y 1 7) = true then (if y = 7 then (true) else (if y = 4 then (if (x_in3 z 1 15) = true then (if (x_in3 (mny z) 2 3) = true then (true) else (false)) else (false)) else (if (x_in3 z 0 3) = true then (true) else (false)))) else (false)) = true then (if y = 5 then (if (x_isItem u) = true then (if (x_in3 v 1 60) = true then (true) else (false)) else (false)) else (true)) else (false)) = true) → (Q (some (.int (-6))) h)))) ∧ (¬ ((x_in3 u 0 ((gI h 397 1) - 1)) = true) → (Q (some (.int (-1))) h)))) ∧ (¬ (y = 6) → ((((if (if (x_in3 y 1 7) = true then (if y = 7 then (true) else (if y = 4 then (if (x_in3 z 1 15) = true then (if (x_in3 (mny z) 2 3) = true then (true) else (false)) else (false)) else (if (x_in3 z 0 3) = true then (true) else (false)))) else (false)) = true then (if y = 5 then (if (x_isItem u) = true then (if (x_in3 v 1 60) = true then (true) else (false)) else (false)) else (true)) else (false)) = true) → (∃ k49 : Nat, x = nI k49 ∧ k49 < 144 ∧ Q (some (.int (if (gI h 405 k49) = 0 then (1) else ((-6))))) h)) ∧ (¬ ((if (if (x_in3 y 1 7) = true then (if y = 7 then (true) else (if y = 4 then (if (x_in3 z 1 15) = true then (if (x_in3 (mny z) 2 3) = true then (true) else (false)) else (false)) else (if (x_in3 z 0 3) = true then (true) else (false)))) else (false)) = true then (if y = 5 then (if (x_isItem u) = true then (if (x_in3 v 1 60) = true then (true) else (false)) else (false)) else (true)) else (false)) = true) → (Q (some (.int (-6))) h)))))) ∧ (¬ ((x_isCell x) = true) → (Q (some (.int (-1))) h))) : ∃ r h', Sp L xs 132 [.ref 397, .int x, .int y, .int z, .int u, .int v] h r h' ∧ Q r h' := by
  refine sp_ex (ls := [some (.ref 397), some (.int x), some (.int y), some (.int z), some (.int u), some (.int v), none]) rfl ?_
  refine e_ld (pc' := 1) i132_0 rfl rfl ?_
  refine e_cI (w := .int (b2i (x_isCell x))) (As := [.int x]) (rest := []) (pc' := 4) i132_1 rfl rfl rfl rfl rfl m125 ?_
  refine e_b0 (pc' := 7) i132_4 rfl (fun c1 => ?_) (fun c1 => ?_)
  · have d2 : ¬ ((x_isCell x) = true) := (show ¬ (x_isCell x) = true by rw [c1]; decide)
    replace H := H.2 d2
    refine e_cn (pc' := 29) i132_28 rfl ?_
    refine e_rt i132_29 rfl ?_
    exact H
  · have d3 : (x_isCell x) = true := c1
    replace H := H.1 d3
    refine e_ld (pc' := 8) i132_7 rfl rfl ?_
    refine e_cn (pc' := 10) i132_8 rfl ?_
    refine e_ic (pc' := 13) i132_10 rfl (fun c4 => ?_) (fun c4 => ?_)
    · have d5 : ¬ (y = 6) := (of_decide_eq_true c4)
      replace H := H.2 d5
      refine e_ld (pc' := 31) i132_30 rfl rfl ?_
      refine e_cn (pc' := 32) i132_31 rfl ?_
      refine e_cn (pc' := 34) i132_32 rfl ?_
      refine e_cI (w := .int (b2i (x_in3 y 1 7))) (As := [.int y, .int 1, .int 7]) (rest := []) (pc' := 37) i132_34 rfl rfl rfl rfl rfl m123 ?_
      refine e_reg (pc' := 90) (ls' := [some (.ref 397), some (.int x), some (.int y), some (.int z), some (.int u), some (.int v), none]) (st' := [.int (b2i (if (x_in3 y 1 7) = true then (if y = 7 then (true) else (if y = 4 then (if (x_in3 z 1 15) = true then (if (x_in3 (mny z) 2 3) = true then (true) else (false)) else (false)) else (if (x_in3 z 0 3) = true then (true) else (false)))) else (false)))]) (fun kj6 => ?_) ?_
      · skip
        refine e_b0 (pc' := 40) i132_37 rfl (fun c7 => ?_) (fun c7 => ?_)
        · have d8 : ¬ ((x_in3 y 1 7) = true) := (show ¬ (x_in3 y 1 7) = true by rw [c7]; decide)
          refine e_cn (pc' := 90) i132_89 rfl ?_
          exact (by simp only [if_neg d8] at kj6 ⊢; exact kj6)
        · have d9 : (x_in3 y 1 7) = true := c7
          refine e_ld (pc' := 41) i132_40 rfl rfl ?_
          refine e_cn (pc' := 43) i132_41 rfl ?_
          refine e_reg (pc' := 90) (ls' := [some (.ref 397), some (.int x), some (.int y), some (.int z), some (.int u), some (.int v), none]) (st' := [.int (b2i (if y = 7 then (true) else (if y = 4 then (if (x_in3 z 1 15) = true then (if (x_in3 (mny z) 2 3) = true then (true) else (false)) else (false)) else (if (x_in3 z 0 3) = true then (true) else (false)))))]) (fun kj10 => ?_) ?_
          · skip
            refine e_ic (pc' := 46) i132_43 rfl (fun c11 => ?_) (fun c11 => ?_)
            · have d12 : y = 7 := (of_decide_eq_true c11)
              refine e_cn (pc' := 86) i132_85 rfl ?_
              refine e_go i132_86 ?_
              exact (by simp only [if_pos d12] at kj10 ⊢; exact kj10)
            · have d13 : ¬ (y = 7) := (of_decide_eq_false c11)
              refine e_ld (pc' := 47) i132_46 rfl rfl ?_
              refine e_cn (pc' := 48) i132_47 rfl ?_
              refine e_reg (pc' := 90) (ls' := [some (.ref 397), some (.int x), some (.int y), some (.int z), some (.int u), some (.int v), none]) (st' := [.int (b2i (if y = 4 then (if (x_in3 z 1 15) = true then (if (x_in3 (mny z) 2 3) = true then (true) else (false)) else (false)) else (if (x_in3 z 0 3) = true then (true) else (false))))]) (fun kj14 => ?_) ?_
              · skip
                refine e_ic (pc' := 51) i132_48 rfl (fun c15 => ?_) (fun c15 => ?_)
                · have d16 : ¬ (y = 4) := (of_decide_eq_true c15)
                  refine e_ld (pc' := 77) i132_76 rfl rfl ?_
                  refine e_cn (pc' := 78) i132_77 rfl ?_
                  refine e_cn (pc' := 79) i132_78 rfl ?_
                  refine e_cI (w := .int (b2i (x_in3 z 0 3))) (As := [.int z, .int 0, .int 3]) (rest := []) (pc' := 82) i132_79 rfl rfl rfl rfl rfl m123 ?_
                  refine e_reg (pc' := 90) (ls' := [some (.ref 397), some (.int x), some (.int y), some (.int z), some (.int u), some (.int v), none]) (st' := [.int (b2i (if (x_in3 z 0 3) = true then (true) else (false)))]) (fun kj17 => ?_) ?_
                  · skip
                    refine e_b0 (pc' := 85) i132_82 rfl (fun c18 => ?_) (fun c18 => ?_)
                    · have d19 : ¬ ((x_in3 z 0 3) = true) := (show ¬ (x_in3 z 0 3) = true by rw [c18]; decide)
                      refine e_cn (pc' := 90) i132_89 rfl ?_
                      exact (by simp only [if_neg d19] at kj17 ⊢; exact kj17)
                    · have d20 : (x_in3 z 0 3) = true := c18
                      refine e_cn (pc' := 86) i132_85 rfl ?_
                      refine e_go i132_86 ?_
                      exact (by simp only [if_pos d20] at kj17 ⊢; exact kj17)
                  exact (by simp only [if_neg d16] at kj14 ⊢; exact kj14)
                · have d21 : y = 4 := (Decidable.not_not.mp (of_decide_eq_false c15))
                  refine e_ld (pc' := 52) i132_51 rfl rfl ?_
                  refine e_cn (pc' := 53) i132_52 rfl ?_
                  refine e_cn (pc' := 55) i132_53 rfl ?_
                  refine e_cI (w := .int (b2i (x_in3 z 1 15))) (As := [.int z, .int 1, .int 15]) (rest := []) (pc' := 58) i132_55 rfl rfl rfl rfl rfl m123 ?_
                  refine e_reg (pc' := 90) (ls' := [some (.ref 397), some (.int x), some (.int y), some (.int z), some (.int u), some (.int v), none]) (st' := [.int (b2i (if (x_in3 z 1 15) = true then (if (x_in3 (mny z) 2 3) = true then (true) else (false)) else (false)))]) (fun kj22 => ?_) ?_
                  · skip
                    refine e_b0 (pc' := 61) i132_58 rfl (fun c23 => ?_) (fun c23 => ?_)
                    · have d24 : ¬ ((x_in3 z 1 15) = true) := (show ¬ (x_in3 z 1 15) = true by rw [c23]; decide)
                      refine e_cn (pc' := 90) i132_89 rfl ?_
                      exact (by simp only [if_neg d24] at kj22 ⊢; exact kj22)
                    · have d25 : (x_in3 z 1 15) = true := c23
                      refine e_ld (pc' := 62) i132_61 rfl rfl ?_
                      refine e_cI (w := .int (mny z)) (As := [.int z]) (rest := []) (pc' := 65) i132_62 rfl rfl rfl rfl rfl m131 ?_
                      refine e_cn (pc' := 66) i132_65 rfl ?_
                      refine e_cn (pc' := 67) i132_66 rfl ?_
                      refine e_cI (w := .int (b2i (x_in3 (mny z) 2 3))) (As := [.int (mny z), .int 2, .int 3]) (rest := []) (pc' := 70) i132_67 rfl rfl rfl rfl rfl m123 ?_
                      refine e_reg (pc' := 90) (ls' := [some (.ref 397), some (.int x), some (.int y), some (.int z), some (.int u), some (.int v), none]) (st' := [.int (b2i (if (x_in3 (mny z) 2 3) = true then (true) else (false)))]) (fun kj26 => ?_) ?_
                      · skip
                        refine e_b0 (pc' := 73) i132_70 rfl (fun c27 => ?_) (fun c27 => ?_)
                        · have d28 : ¬ ((x_in3 (mny z) 2 3) = true) := (show ¬ (x_in3 (mny z) 2 3) = true by rw [c27]; decide)
                          refine e_cn (pc' := 90) i132_89 rfl ?_
                          exact (by simp only [if_neg d28] at kj26 ⊢; exact kj26)
                        · have d29 : (x_in3 (mny z) 2 3) = true := c27
                          refine e_go i132_73 ?_
                          refine e_cn (pc' := 86) i132_85 rfl ?_
                          refine e_go i132_86 ?_
                          exact (by simp only [if_pos d29] at kj26 ⊢; exact kj26)
                      exact (by simp only [if_pos d25] at kj22 ⊢; exact kj22)
                  exact (by simp only [if_pos d21] at kj14 ⊢; exact kj14)
              exact (by simp only [if_neg d13] at kj10 ⊢; exact kj10)
          exact (by simp only [if_pos d9] at kj6 ⊢; exact kj6)
      refine e_st (ls' := [some (.ref 397), some (.int x), some (.int y), some (.int z), some (.int u), some (.int v), some (.int (b2i (if (x_in3 y 1 7) = true then (if y = 7 then (true) else (if y = 4 then (if (x_in3 z 1 15) = true then (if (x_in3 (mny z) 2 3) = true then (true) else (false)) else (false)) else (if (x_in3 z 0 3) = true then (true) else (false)))) else (false))))]) (pc' := 92) i132_90 rfl rfl rfl ?_
      refine e_ld (pc' := 94) i132_92 rfl rfl ?_
      refine e_reg (pc' := 126) (ls' := [some (.ref 397), some (.int x), some (.int y), some (.int z), some (.int u), some (.int v), some (.int (b2i (if (x_in3 y 1 7) = true then (if y = 7 then (true) else (if y = 4 then (if (x_in3 z 1 15) = true then (if (x_in3 (mny z) 2 3) = true then (true) else (false)) else (false)) else (if (x_in3 z 0 3) = true then (true) else (false)))) else (false))))]) (st' := [.int (b2i (if (if (x_in3 y 1 7) = true then (if y = 7 then (true) else (if y = 4 then (if (x_in3 z 1 15) = true then (if (x_in3 (mny z) 2 3) = true then (true) else (false)) else (false)) else (if (x_in3 z 0 3) = true then (true) else (false)))) else (false)) = true then (if y = 5 then (if (x_isItem u) = true then (if (x_in3 v 1 60) = true then (true) else (false)) else (false)) else (true)) else (false)))]) (fun kj30 => ?_) ?_
      · skip
        refine e_b0 (pc' := 97) i132_94 rfl (fun c31 => ?_) (fun c31 => ?_)
        · have d32 : ¬ ((if (x_in3 y 1 7) = true then (if y = 7 then (true) else (if y = 4 then (if (x_in3 z 1 15) = true then (if (x_in3 (mny z) 2 3) = true then (true) else (false)) else (false)) else (if (x_in3 z 0 3) = true then (true) else (false)))) else (false)) = true) := (show ¬ (if (x_in3 y 1 7) = true then (if y = 7 then (true) else (if y = 4 then (if (x_in3 z 1 15) = true then (if (x_in3 (mny z) 2 3) = true then (true) else (false)) else (false)) else (if (x_in3 z 0 3) = true then (true) else (false)))) else (false)) = true by rw [c31]; decide)
          refine e_cn (pc' := 126) i132_125 rfl ?_
          exact (by simp only [if_neg d32] at kj30 ⊢; exact kj30)
        · have d33 : (if (x_in3 y 1 7) = true then (if y = 7 then (true) else (if y = 4 then (if (x_in3 z 1 15) = true then (if (x_in3 (mny z) 2 3) = true then (true) else (false)) else (false)) else (if (x_in3 z 0 3) = true then (true) else (false)))) else (false)) = true := c31
          refine e_ld (pc' := 98) i132_97 rfl rfl ?_
          refine e_cn (pc' := 99) i132_98 rfl ?_
          refine e_reg (pc' := 126) (ls' := [some (.ref 397), some (.int x), some (.int y), some (.int z), some (.int u), some (.int v), some (.int (b2i (if (x_in3 y 1 7) = true then (if y = 7 then (true) else (if y = 4 then (if (x_in3 z 1 15) = true then (if (x_in3 (mny z) 2 3) = true then (true) else (false)) else (false)) else (if (x_in3 z 0 3) = true then (true) else (false)))) else (false))))]) (st' := [.int (b2i (if y = 5 then (if (x_isItem u) = true then (if (x_in3 v 1 60) = true then (true) else (false)) else (false)) else (true)))]) (fun kj34 => ?_) ?_
          · skip
            refine e_ic (pc' := 102) i132_99 rfl (fun c35 => ?_) (fun c35 => ?_)
            · have d36 : ¬ (y = 5) := (of_decide_eq_true c35)
              refine e_cn (pc' := 122) i132_121 rfl ?_
              refine e_go i132_122 ?_
              exact (by simp only [if_neg d36] at kj34 ⊢; exact kj34)
            · have d37 : y = 5 := (Decidable.not_not.mp (of_decide_eq_false c35))
              refine e_ld (pc' := 104) i132_102 rfl rfl ?_
              refine e_cI (w := .int (b2i (x_isItem u))) (As := [.int u]) (rest := []) (pc' := 107) i132_104 rfl rfl rfl rfl rfl m126 ?_
              refine e_reg (pc' := 126) (ls' := [some (.ref 397), some (.int x), some (.int y), some (.int z), some (.int u), some (.int v), some (.int (b2i (if (x_in3 y 1 7) = true then (if y = 7 then (true) else (if y = 4 then (if (x_in3 z 1 15) = true then (if (x_in3 (mny z) 2 3) = true then (true) else (false)) else (false)) else (if (x_in3 z 0 3) = true then (true) else (false)))) else (false))))]) (st' := [.int (b2i (if (x_isItem u) = true then (if (x_in3 v 1 60) = true then (true) else (false)) else (false)))]) (fun kj38 => ?_) ?_
              · skip
                refine e_b0 (pc' := 110) i132_107 rfl (fun c39 => ?_) (fun c39 => ?_)
                · have d40 : ¬ ((x_isItem u) = true) := (show ¬ (x_isItem u) = true by rw [c39]; decide)
                  refine e_cn (pc' := 126) i132_125 rfl ?_
                  exact (by simp only [if_neg d40] at kj38 ⊢; exact kj38)
                · have d41 : (x_isItem u) = true := c39
                  refine e_ld (pc' := 112) i132_110 rfl rfl ?_
                  refine e_cn (pc' := 113) i132_112 rfl ?_
                  refine e_cn (pc' := 115) i132_113 rfl ?_
                  refine e_cI (w := .int (b2i (x_in3 v 1 60))) (As := [.int v, .int 1, .int 60]) (rest := []) (pc' := 118) i132_115 rfl rfl rfl rfl rfl m123 ?_
                  refine e_reg (pc' := 126) (ls' := [some (.ref 397), some (.int x), some (.int y), some (.int z), some (.int u), some (.int v), some (.int (b2i (if (x_in3 y 1 7) = true then (if y = 7 then (true) else (if y = 4 then (if (x_in3 z 1 15) = true then (if (x_in3 (mny z) 2 3) = true then (true) else (false)) else (false)) else (if (x_in3 z 0 3) = true then (true) else (false)))) else (false))))]) (st' := [.int (b2i (if (x_in3 v 1 60) = true then (true) else (false)))]) (fun kj42 => ?_) ?_
                  · skip
                    refine e_b0 (pc' := 121) i132_118 rfl (fun c43 => ?_) (fun c43 => ?_)
                    · have d44 : ¬ ((x_in3 v 1 60) = true) := (show ¬ (x_in3 v 1 60) = true by rw [c43]; decide)
                      refine e_cn (pc' := 126) i132_125 rfl ?_
                      exact (by simp only [if_neg d44] at kj42 ⊢; exact kj42)
                    · have d45 : (x_in3 v 1 60) = true := c43
                      refine e_cn (pc' := 122) i132_121 rfl ?_
                      refine e_go i132_122 ?_
                      exact (by simp only [if_pos d45] at kj42 ⊢; exact kj42)
                  exact (by simp only [if_pos d41] at kj38 ⊢; exact kj38)
              exact (by simp only [if_pos d37] at kj34 ⊢; exact kj34)
          exact (by simp only [if_pos d33] at kj30 ⊢; exact kj30)
      refine e_st (ls' := [some (.ref 397), some (.int x), some (.int y), some (.int z), some (.int u), some (.int v), some (.int (b2i (if (if (x_in3 y 1 7) = true then (if y = 7 then (true) else (if y = 4 then (if (x_in3 z 1 15) = true then (if (x_in3 (mny z) 2 3) = true then (true) else (false)) else (false)) else (if (x_in3 z 0 3) = true then (true) else (false)))) else (false)) = true then (if y = 5 then (if (x_isItem u) = true then (if (x_in3 v 1 60) = true then (true) else (false)) else (false)) else (true)) else (false))))]) (pc' := 128) i132_126 rfl rfl rfl ?_
      refine e_ld (pc' := 130) i132_128 rfl rfl ?_
      refine e_b0 (pc' := 133) i132_130 rfl (fun c46 => ?_) (fun c46 => ?_)
      · have d47 : ¬ ((if (if (x_in3 y 1 7) = true then (if y = 7 then (true) else (if y = 4 then (if (x_in3 z 1 15) = true then (if (x_in3 (mny z) 2 3) = true then (true) else (false)) else (false)) else (if (x_in3 z 0 3) = true then (true) else (false)))) else (false)) = true then (if y = 5 then (if (x_isItem u) = true then (if (x_in3 v 1 60) = true then (true) else (false)) else (false)) else (true)) else (false)) = true) := (show ¬ (if (if (x_in3 y 1 7) = true then (if y = 7 then (true) else (if y = 4 then (if (x_in3 z 1 15) = true then (if (x_in3 (mny z) 2 3) = true then (true) else (false)) else (false)) else (if (x_in3 z 0 3) = true then (true) else (false)))) else (false)) = true then (if y = 5 then (if (x_isItem u) = true then (if (x_in3 v 1 60) = true then (true) else (false)) else (false)) else (true)) else (false)) = true by rw [c46]; decide)
        replace H := H.2 d47
        refine e_cn (pc' := 148) i132_146 rfl ?_
        refine e_rt i132_148 rfl ?_
        exact H
      · have d48 : (if (if (x_in3 y 1 7) = true then (if y = 7 then (true) else (if y = 4 then (if (x_in3 z 1 15) = true then (if (x_in3 (mny z) 2 3) = true then (true) else (false)) else (false)) else (if (x_in3 z 0 3) = true then (true) else (false)))) else (false)) = true then (if y = 5 then (if (x_isItem u) = true then (if (x_in3 v 1 60) = true then (true) else (false)) else (false)) else (true)) else (false)) = true := c46
        replace H := H.1 d48
        refine e_ld (pc' := 134) i132_133 rfl rfl ?_
        refine e_get (w := .ref 405) (pc' := 137) i132_134 rfl (x_isC (by decide) hw.1 sh397) (x_fvR (by decide +kernel) (hw.2 397 8 405 lk397_8)) ?_
        refine e_ld (pc' := 138) i132_137 rfl rfl ?_
        obtain ⟨k49, e50, g51, H⟩ := H
        refine e_al (n := k49) (w := .int (gI h 405 k49)) (pc' := 139) i132_138 rfl (x_alE (a := 20) (by decide) hw.1 sh405 (by decide) e50 g51 (by decide)) (x_clE e50 g51 (by decide)) rfl ?_
        refine e_reg (pc' := 148) (ls' := [some (.ref 397), some (.int x), some (.int y), some (.int z), some (.int u), some (.int v), some (.int (b2i (if (if (x_in3 y 1 7) = true then (if y = 7 then (true) else (if y = 4 then (if (x_in3 z 1 15) = true then (if (x_in3 (mny z) 2 3) = true then (true) else (false)) else (false)) else (if (x_in3 z 0 3) = true then (true) else (false)))) else (false)) = true then (if y = 5 then (if (x_isItem u) = true then (if (x_in3 v 1 60) = true then (true) else (false)) else (false)) else (true)) else (false))))]) (st' := [.int (if (gI h 405 k49) = 0 then (1) else ((-6)))]) (fun kj52 => ?_) ?_
        · skip
          refine e_if (pc' := 142) i132_139 rfl (fun c53 => ?_) (fun c53 => ?_)
          · have d54 : ¬ ((gI h 405 k49) = 0) := (of_decide_eq_true c53)
            refine e_cn (pc' := 148) i132_146 rfl ?_
            exact (by simp only [if_neg d54] at kj52 ⊢; exact kj52)
          · have d55 : (gI h 405 k49) = 0 := (Decidable.not_not.mp (of_decide_eq_false c53))
            refine e_cn (pc' := 143) i132_142 rfl ?_
            refine e_go i132_143 ?_
            exact (by simp only [if_pos d55] at kj52 ⊢; exact kj52)
        refine e_rt i132_148 rfl ?_
        exact H
    · have d56 : y = 6 := (Decidable.not_not.mp (of_decide_eq_false c4))
      replace H := H.1 d56
      refine e_ld (pc' := 15) i132_13 rfl rfl ?_
      refine e_cn (pc' := 16) i132_15 rfl ?_
      refine e_ld (pc' := 17) i132_16 rfl rfl ?_
      refine e_get (w := .int (gI h 397 1)) (pc' := 20) i132_17 rfl (x_isC (by decide) hw.1 sh397) rfl ?_
      refine e_cn (pc' := 21) i132_20 rfl ?_
      refine e_ib (z := (gI h 397 1) - 1) (pc' := 22) i132_21 rfl rfl ?_
      refine e_cI (w := .int (b2i (x_in3 u 0 ((gI h 397 1) - 1)))) (As := [.int u, .int 0, .int ((gI h 397 1) - 1)]) (rest := []) (pc' := 25) i132_22 rfl rfl rfl rfl rfl m123 ?_
      refine e_b1 (pc' := 28) i132_25 rfl (fun c57 => ?_) (fun c57 => ?_)
      · have d58 : (x_in3 u 0 ((gI h 397 1) - 1)) = true := c57
        replace H := H.1 d58
        refine e_ld (pc' := 31) i132_30 rfl rfl ?_
        refine e_cn (pc' := 32) i132_31 rfl ?_
        refine e_cn (pc' := 34) i132_32 rfl ?_
        refine e_cI (w := .int (b2i (x_in3 y 1 7))) (As := [.int y, .int 1, .int 7]) (rest := []) (pc' := 37) i132_34 rfl rfl rfl rfl rfl m123 ?_
        refine e_reg (pc' := 90) (ls' := [some (.ref 397), some (.int x), some (.int y), some (.int z), some (.int u), some (.int v), none]) (st' := [.int (b2i (if (x_in3 y 1 7) = true then (if y = 7 then (true) else (if y = 4 then (if (x_in3 z 1 15) = true then (if (x_in3 (mny z) 2 3) = true then (true) else (false)) else (false)) else (if (x_in3 z 0 3) = true then (true) else (false)))) else (false)))]) (fun kj59 => ?_) ?_
        · skip
          refine e_b0 (pc' := 40) i132_37 rfl (fun c60 => ?_) (fun c60 => ?_)
          · have d61 : ¬ ((x_in3 y 1 7) = true) := (show ¬ (x_in3 y 1 7) = true by rw [c60]; decide)
            refine e_cn (pc' := 90) i132_89 rfl ?_
            exact (by simp only [if_neg d61] at kj59 ⊢; exact kj59)
          · have d62 : (x_in3 y 1 7) = true := c60
            refine e_ld (pc' := 41) i132_40 rfl rfl ?_
            refine e_cn (pc' := 43) i132_41 rfl ?_
            refine e_reg (pc' := 90) (ls' := [some (.ref 397), some (.int x), some (.int y), some (.int z), some (.int u), some (.int v), none]) (st' := [.int (b2i (if y = 7 then (true) else (if y = 4 then (if (x_in3 z 1 15) = true then (if (x_in3 (mny z) 2 3) = true then (true) else (false)) else (false)) else (if (x_in3 z 0 3) = true then (true) else (false)))))]) (fun kj63 => ?_) ?_
            · skip
              refine e_ic (pc' := 46) i132_43 rfl (fun c64 => ?_) (fun c64 => ?_)
              · have d65 : y = 7 := (of_decide_eq_true c64)
                refine e_cn (pc' := 86) i132_85 rfl ?_
                refine e_go i132_86 ?_
                exact (by simp only [if_pos d65] at kj63 ⊢; exact kj63)
              · have d66 : ¬ (y = 7) := (of_decide_eq_false c64)
                refine e_ld (pc' := 47) i132_46 rfl rfl ?_
                refine e_cn (pc' := 48) i132_47 rfl ?_
                refine e_reg (pc' := 90) (ls' := [some (.ref 397), some (.int x), some (.int y), some (.int z), some (.int u), some (.int v), none]) (st' := [.int (b2i (if y = 4 then (if (x_in3 z 1 15) = true then (if (x_in3 (mny z) 2 3) = true then (true) else (false)) else (false)) else (if (x_in3 z 0 3) = true then (true) else (false))))]) (fun kj67 => ?_) ?_
                · skip
                  refine e_ic (pc' := 51) i132_48 rfl (fun c68 => ?_) (fun c68 => ?_)
                  · have d69 : ¬ (y = 4) := (of_decide_eq_true c68)
                    refine e_ld (pc' := 77) i132_76 rfl rfl ?_
                    refine e_cn (pc' := 78) i132_77 rfl ?_
                    refine e_cn (pc' := 79) i132_78 rfl ?_
                    refine e_cI (w := .int (b2i (x_in3 z 0 3))) (As := [.int z, .int 0, .int 3]) (rest := []) (pc' := 82) i132_79 rfl rfl rfl rfl rfl m123 ?_
                    refine e_reg (pc' := 90) (ls' := [some (.ref 397), some (.int x), some (.int y), some (.int z), some (.int u), some (.int v), none]) (st' := [.int (b2i (if (x_in3 z 0 3) = true then (true) else (false)))]) (fun kj70 => ?_) ?_
                    · skip
                      refine e_b0 (pc' := 85) i132_82 rfl (fun c71 => ?_) (fun c71 => ?_)
                      · have d72 : ¬ ((x_in3 z 0 3) = true) := (show ¬ (x_in3 z 0 3) = true by rw [c71]; decide)
                        refine e_cn (pc' := 90) i132_89 rfl ?_
                        exact (by simp only [if_neg d72] at kj70 ⊢; exact kj70)
                      · have d73 : (x_in3 z 0 3) = true := c71
                        refine e_cn (pc' := 86) i132_85 rfl ?_
                        refine e_go i132_86 ?_
                        exact (by simp only [if_pos d73] at kj70 ⊢; exact kj70)
                    exact (by simp only [if_neg d69] at kj67 ⊢; exact kj67)
                  · have d74 : y = 4 := (Decidable.not_not.mp (of_decide_eq_false c68))
                    refine e_ld (pc' := 52) i132_51 rfl rfl ?_
                    refine e_cn (pc' := 53) i132_52 rfl ?_
                    refine e_cn (pc' := 55) i132_53 rfl ?_
                    refine e_cI (w := .int (b2i (x_in3 z 1 15))) (As := [.int z, .int 1, .int 15]) (rest := []) (pc' := 58) i132_55 rfl rfl rfl rfl rfl m123 ?_
                    refine e_reg (pc' := 90) (ls' := [some (.ref 397), some (.int x), some (.int y), some (.int z), some (.int u), some (.int v), none]) (st' := [.int (b2i (if (x_in3 z 1 15) = true then (if (x_in3 (mny z) 2 3) = true then (true) else (false)) else (false)))]) (fun kj75 => ?_) ?_
                    · skip
                      refine e_b0 (pc' := 61) i132_58 rfl (fun c76 => ?_) (fun c76 => ?_)
                      · have d77 : ¬ ((x_in3 z 1 15) = true) := (show ¬ (x_in3 z 1 15) = true by rw [c76]; decide)
                        refine e_cn (pc' := 90) i132_89 rfl ?_
                        exact (by simp only [if_neg d77] at kj75 ⊢; exact kj75)
                      · have d78 : (x_in3 z 1 15) = true := c76
                        refine e_ld (pc' := 62) i132_61 rfl rfl ?_
                        refine e_cI (w := .int (mny z)) (As := [.int z]) (rest := []) (pc' := 65) i132_62 rfl rfl rfl rfl rfl m131 ?_
                        refine e_cn (pc' := 66) i132_65 rfl ?_
                        refine e_cn (pc' := 67) i132_66 rfl ?_
                        refine e_cI (w := .int (b2i (x_in3 (mny z) 2 3))) (As := [.int (mny z), .int 2, .int 3]) (rest := []) (pc' := 70) i132_67 rfl rfl rfl rfl rfl m123 ?_
                        refine e_reg (pc' := 90) (ls' := [some (.ref 397), some (.int x), some (.int y), some (.int z), some (.int u), some (.int v), none]) (st' := [.int (b2i (if (x_in3 (mny z) 2 3) = true then (true) else (false)))]) (fun kj79 => ?_) ?_
                        · skip
                          refine e_b0 (pc' := 73) i132_70 rfl (fun c80 => ?_) (fun c80 => ?_)
                          · have d81 : ¬ ((x_in3 (mny z) 2 3) = true) := (show ¬ (x_in3 (mny z) 2 3) = true by rw [c80]; decide)
                            refine e_cn (pc' := 90) i132_89 rfl ?_
                            exact (by simp only [if_neg d81] at kj79 ⊢; exact kj79)
                          · have d82 : (x_in3 (mny z) 2 3) = true := c80
                            refine e_go i132_73 ?_
                            refine e_cn (pc' := 86) i132_85 rfl ?_
                            refine e_go i132_86 ?_
                            exact (by simp only [if_pos d82] at kj79 ⊢; exact kj79)
                        exact (by simp only [if_pos d78] at kj75 ⊢; exact kj75)
                    exact (by simp only [if_pos d74] at kj67 ⊢; exact kj67)
                exact (by simp only [if_neg d66] at kj63 ⊢; exact kj63)
            exact (by simp only [if_pos d62] at kj59 ⊢; exact kj59)
        refine e_st (ls' := [some (.ref 397), some (.int x), some (.int y), some (.int z), some (.int u), some (.int v), some (.int (b2i (if (x_in3 y 1 7) = true then (if y = 7 then (true) else (if y = 4 then (if (x_in3 z 1 15) = true then (if (x_in3 (mny z) 2 3) = true then (true) else (false)) else (false)) else (if (x_in3 z 0 3) = true then (true) else (false)))) else (false))))]) (pc' := 92) i132_90 rfl rfl rfl ?_
        refine e_ld (pc' := 94) i132_92 rfl rfl ?_
        refine e_reg (pc' := 126) (ls' := [some (.ref 397), some (.int x), some (.int y), some (.int z), some (.int u), some (.int v), some (.int (b2i (if (x_in3 y 1 7) = true then (if y = 7 then (true) else (if y = 4 then (if (x_in3 z 1 15) = true then (if (x_in3 (mny z) 2 3) = true then (true) else (false)) else (false)) else (if (x_in3 z 0 3) = true then (true) else (false)))) else (false))))]) (st' := [.int (b2i (if (if (x_in3 y 1 7) = true then (if y = 7 then (true) else (if y = 4 then (if (x_in3 z 1 15) = true then (if (x_in3 (mny z) 2 3) = true then (true) else (false)) else (false)) else (if (x_in3 z 0 3) = true then (true) else (false)))) else (false)) = true then (if y = 5 then (if (x_isItem u) = true then (if (x_in3 v 1 60) = true then (true) else (false)) else (false)) else (true)) else (false)))]) (fun kj83 => ?_) ?_
        · skip
          refine e_b0 (pc' := 97) i132_94 rfl (fun c84 => ?_) (fun c84 => ?_)
          · have d85 : ¬ ((if (x_in3 y 1 7) = true then (if y = 7 then (true) else (if y = 4 then (if (x_in3 z 1 15) = true then (if (x_in3 (mny z) 2 3) = true then (true) else (false)) else (false)) else (if (x_in3 z 0 3) = true then (true) else (false)))) else (false)) = true) := (show ¬ (if (x_in3 y 1 7) = true then (if y = 7 then (true) else (if y = 4 then (if (x_in3 z 1 15) = true then (if (x_in3 (mny z) 2 3) = true then (true) else (false)) else (false)) else (if (x_in3 z 0 3) = true then (true) else (false)))) else (false)) = true by rw [c84]; decide)
            refine e_cn (pc' := 126) i132_125 rfl ?_
            exact (by simp only [if_neg d85] at kj83 ⊢; exact kj83)
          · have d86 : (if (x_in3 y 1 7) = true then (if y = 7 then (true) else (if y = 4 then (if (x_in3 z 1 15) = true then (if (x_in3 (mny z) 2 3) = true then (true) else (false)) else (false)) else (if (x_in3 z 0 3) = true then (true) else (false)))) else (false)) = true := c84
            refine e_ld (pc' := 98) i132_97 rfl rfl ?_
            refine e_cn (pc' := 99) i132_98 rfl ?_
            refine e_reg (pc' := 126) (ls' := [some (.ref 397), some (.int x), some (.int y), some (.int z), some (.int u), some (.int v), some (.int (b2i (if (x_in3 y 1 7) = true then (if y = 7 then (true) else (if y = 4 then (if (x_in3 z 1 15) = true then (if (x_in3 (mny z) 2 3) = true then (true) else (false)) else (false)) else (if (x_in3 z 0 3) = true then (true) else (false)))) else (false))))]) (st' := [.int (b2i (if y = 5 then (if (x_isItem u) = true then (if (x_in3 v 1 60) = true then (true) else (false)) else (false)) else (true)))]) (fun kj87 => ?_) ?_
            · skip
              refine e_ic (pc' := 102) i132_99 rfl (fun c88 => ?_) (fun c88 => ?_)
              · have d89 : ¬ (y = 5) := (of_decide_eq_true c88)
                refine e_cn (pc' := 122) i132_121 rfl ?_
                refine e_go i132_122 ?_
                exact (by simp only [if_neg d89] at kj87 ⊢; exact kj87)
              · have d90 : y = 5 := (Decidable.not_not.mp (of_decide_eq_false c88))
                refine e_ld (pc' := 104) i132_102 rfl rfl ?_
                refine e_cI (w := .int (b2i (x_isItem u))) (As := [.int u]) (rest := []) (pc' := 107) i132_104 rfl rfl rfl rfl rfl m126 ?_
                refine e_reg (pc' := 126) (ls' := [some (.ref 397), some (.int x), some (.int y), some (.int z), some (.int u), some (.int v), some (.int (b2i (if (x_in3 y 1 7) = true then (if y = 7 then (true) else (if y = 4 then (if (x_in3 z 1 15) = true then (if (x_in3 (mny z) 2 3) = true then (true) else (false)) else (false)) else (if (x_in3 z 0 3) = true then (true) else (false)))) else (false))))]) (st' := [.int (b2i (if (x_isItem u) = true then (if (x_in3 v 1 60) = true then (true) else (false)) else (false)))]) (fun kj91 => ?_) ?_
                · skip
                  refine e_b0 (pc' := 110) i132_107 rfl (fun c92 => ?_) (fun c92 => ?_)
                  · have d93 : ¬ ((x_isItem u) = true) := (show ¬ (x_isItem u) = true by rw [c92]; decide)
                    refine e_cn (pc' := 126) i132_125 rfl ?_
                    exact (by simp only [if_neg d93] at kj91 ⊢; exact kj91)
                  · have d94 : (x_isItem u) = true := c92
                    refine e_ld (pc' := 112) i132_110 rfl rfl ?_
                    refine e_cn (pc' := 113) i132_112 rfl ?_
                    refine e_cn (pc' := 115) i132_113 rfl ?_
                    refine e_cI (w := .int (b2i (x_in3 v 1 60))) (As := [.int v, .int 1, .int 60]) (rest := []) (pc' := 118) i132_115 rfl rfl rfl rfl rfl m123 ?_
                    refine e_reg (pc' := 126) (ls' := [some (.ref 397), some (.int x), some (.int y), some (.int z), some (.int u), some (.int v), some (.int (b2i (if (x_in3 y 1 7) = true then (if y = 7 then (true) else (if y = 4 then (if (x_in3 z 1 15) = true then (if (x_in3 (mny z) 2 3) = true then (true) else (false)) else (false)) else (if (x_in3 z 0 3) = true then (true) else (false)))) else (false))))]) (st' := [.int (b2i (if (x_in3 v 1 60) = true then (true) else (false)))]) (fun kj95 => ?_) ?_
                    · skip
                      refine e_b0 (pc' := 121) i132_118 rfl (fun c96 => ?_) (fun c96 => ?_)
                      · have d97 : ¬ ((x_in3 v 1 60) = true) := (show ¬ (x_in3 v 1 60) = true by rw [c96]; decide)
                        refine e_cn (pc' := 126) i132_125 rfl ?_
                        exact (by simp only [if_neg d97] at kj95 ⊢; exact kj95)
                      · have d98 : (x_in3 v 1 60) = true := c96
                        refine e_cn (pc' := 122) i132_121 rfl ?_
                        refine e_go i132_122 ?_
                        exact (by simp only [if_pos d98] at kj95 ⊢; exact kj95)
                    exact (by simp only [if_pos d94] at kj91 ⊢; exact kj91)
                exact (by simp only [if_pos d90] at kj87 ⊢; exact kj87)
            exact (by simp only [if_pos d86] at kj83 ⊢; exact kj83)
        refine e_st (ls' := [some (.ref 397), some (.int x), some (.int y), some (.int z), some (.int u), some (.int v), some (.int (b2i (if (if (x_in3 y 1 7) = true then (if y = 7 then (true) else (if y = 4 then (if (x_in3 z 1 15) = true then (if (x_in3 (mny z) 2 3) = true then (true) else (false)) else (false)) else (if (x_in3 z 0 3) = true then (true) else (false)))) else (false)) = true then (if y = 5 then (if (x_isItem u) = true then (if (x_in3 v 1 60) = true then (true) else (false)) else (false)) else (true)) else (false))))]) (pc' := 128) i132_126 rfl rfl rfl ?_
        refine e_ld (pc' := 130) i132_128 rfl rfl ?_
        refine e_b0 (pc' := 133) i132_130 rfl (fun c99 => ?_) (fun c99 => ?_)
        · have d100 : ¬ ((if (if (x_in3 y 1 7) = true then (if y = 7 then (true) else (if y = 4 then (if (x_in3 z 1 15) = true then (if (x_in3 (mny z) 2 3) = true then (true) else (false)) else (false)) else (if (x_in3 z 0 3) = true then (true) else (false)))) else (false)) = true then (if y = 5 then (if (x_isItem u) = true then (if (x_in3 v 1 60) = true then (true) else (false)) else (false)) else (true)) else (false)) = true) := (show ¬ (if (if (x_in3 y 1 7) = true then (if y = 7 then (true) else (if y = 4 then (if (x_in3 z 1 15) = true then (if (x_in3 (mny z) 2 3) = true then (true) else (false)) else (false)) else (if (x_in3 z 0 3) = true then (true) else (false)))) else (false)) = true then (if y = 5 then (if (x_isItem u) = true then (if (x_in3 v 1 60) = true then (true) else (false)) else (false)) else (true)) else (false)) = true by rw [c99]; decide)
          replace H := H.2 d100
          refine e_cn (pc' := 148) i132_146 rfl ?_
          refine e_rt i132_148 rfl ?_
          exact H
        · have d101 : (if (if (x_in3 y 1 7) = true then (if y = 7 then (true) else (if y = 4 then (if (x_in3 z 1 15) = true then (if (x_in3 (mny z) 2 3) = true then (true) else (false)) else (false)) else (if (x_in3 z 0 3) = true then (true) else (false)))) else (false)) = true then (if y = 5 then (if (x_isItem u) = true then (if (x_in3 v 1 60) = true then (true) else (false)) else (false)) else (true)) else (false)) = true := c99
          replace H := H.1 d101
          refine e_ld (pc' := 134) i132_133 rfl rfl ?_
          refine e_get (w := .ref 405) (pc' := 137) i132_134 rfl (x_isC (by decide) hw.1 sh397) (x_fvR (by decide +kernel) (hw.2 397 8 405 lk397_8)) ?_
          refine e_ld (pc' := 138) i132_137 rfl rfl ?_
          obtain ⟨k102, e103, g104, H⟩ := H
          refine e_al (n := k102) (w := .int (gI h 405 k102)) (pc' := 139) i132_138 rfl (x_alE (a := 20) (by decide) hw.1 sh405 (by decide) e103 g104 (by decide)) (x_clE e103 g104 (by decide)) rfl ?_
          refine e_reg (pc' := 148) (ls' := [some (.ref 397), some (.int x), some (.int y), some (.int z), some (.int u), some (.int v), some (.int (b2i (if (if (x_in3 y 1 7) = true then (if y = 7 then (true) else (if y = 4 then (if (x_in3 z 1 15) = true then (if (x_in3 (mny z) 2 3) = true then (true) else (false)) else (false)) else (if (x_in3 z 0 3) = true then (true) else (false)))) else (false)) = true then (if y = 5 then (if (x_isItem u) = true then (if (x_in3 v 1 60) = true then (true) else (false)) else (false)) else (true)) else (false))))]) (st' := [.int (if (gI h 405 k102) = 0 then (1) else ((-6)))]) (fun kj105 => ?_) ?_
          · skip
            refine e_if (pc' := 142) i132_139 rfl (fun c106 => ?_) (fun c106 => ?_)
            · have d107 : ¬ ((gI h 405 k102) = 0) := (of_decide_eq_true c106)
              refine e_cn (pc' := 148) i132_146 rfl ?_
              exact (by simp only [if_neg d107] at kj105 ⊢; exact kj105)
            · have d108 : (gI h 405 k102) = 0 := (Decidable.not_not.mp (of_decide_eq_false c106))
              refine e_cn (pc' := 143) i132_142 rfl ?_
              refine e_go i132_143 ?_
              exact (by simp only [if_pos d108] at kj105 ⊢; exact kj105)
          refine e_rt i132_148 rfl ?_
          exact H
      · have d109 : ¬ ((x_in3 u 0 ((gI h 397 1) - 1)) = true) := (show ¬ (x_in3 u 0 ((gI h 397 1) - 1)) = true by rw [c57]; decide)
        replace H := H.2 d109
        refine e_cn (pc' := 29) i132_28 rfl ?_
        refine e_rt i132_29 rfl ?_
        exact H
