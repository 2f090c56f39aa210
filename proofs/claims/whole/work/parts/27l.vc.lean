/-! Conditions of methods (made by wip/whole/vcmake.py). -/
-- FloorTurnModel.areOne(II)Z
set_option maxHeartbeats 8000000 in
set_option maxRecDepth 100000 in
theorem v168 {L : Nat} {xs : Nat → Int32} {Q : Option Value → Hp → Prop} {h : Hp} {x : Int32} {y : Int32} (hw : HW h) 
  (H : WP L xs 168 2 [some (.ref 397), some (.int x), some (.int y), some (.int 0), none, none, none] [] h Q) : ∃ r h', Sp L xs 168 [.ref 397, .int x, .int y] h r h' ∧ Q r h' := by
  refine sp_ex (ls := [some (.ref 397), some (.int x), some (.int y), none, none, none, none]) rfl ?_
  refine e_cn (pc' := 1) i168_0 rfl ?_
  refine e_st (ls' := [some (.ref 397), some (.int x), some (.int y), some (.int 0), none, none, none]) (pc' := 2) i168_1 rfl rfl rfl ?_
  exact H
set_option maxHeartbeats 8000000 in
set_option maxRecDepth 100000 in
theorem v168_2 {L : Nat} {xs : Nat → Int32} {Q : Option Value → Hp → Prop} {h : Hp} {l1 : Int32} {l2 : Int32} {l3 : Int32} {z4 : Option Value} {z5 : Option Value} {z6 : Option Value} (hw : HW h) 
  (H : ((144 ≤ l3) → (Q (some (.int 1)) h)) ∧ (¬ (144 ≤ l3) → (∃ k4 : Nat, l3 = nI k4 ∧ k4 < 144 ∧ (((gI h 405 k4) = 0) → (WP L xs 168 2 [some (.ref 397), some (.int l1), some (.int l2), some (.int (l3 + 1)), some (.int ((144 * l1) + l3)), some (.int ((144 * l2) + l3)), some (.int 1)] [] h Q)) ∧ (¬ ((gI h 405 k4) = 0) → (∃ k10 : Nat, ((144 * l1) + l3) = nI k10 ∧ k10 < 432 ∧ ∃ k13 : Nat, ((144 * l2) + l3) = nI k13 ∧ k13 < 432 ∧ (((gI h 412 k10) = (gI h 412 k13)) → ((((gI h 413 k10) = (gI h 413 k13)) → ((((gI h 414 k10) = (gI h 414 k13)) → ((((gI h 415 k10) = (gI h 415 k13)) → ((((if (gI h 416 k10) = (gI h 416 k13) then (true) else (false)) = true) → (∃ k35 : Nat, (2 * ((144 * l1) + l3)) = nI k35 ∧ k35 < 864 ∧ ∃ k38 : Nat, (2 * ((144 * l2) + l3)) = nI k38 ∧ k38 < 864 ∧ (((gI h 417 k35) = (gI h 417 k38)) → (∃ k44 : Nat, ((2 * ((144 * l1) + l3)) + 1) = nI k44 ∧ k44 < 864 ∧ ∃ k47 : Nat, ((2 * ((144 * l2) + l3)) + 1) = nI k47 ∧ k47 < 864 ∧ (((gI h 417 k44) = (gI h 417 k47)) → ((((gI h 418 k10) = (gI h 418 k13)) → ((((gI h 419 k10) = (gI h 419 k13)) → (WP L xs 168 2 [some (.ref 397), some (.int l1), some (.int l2), some (.int (l3 + 1)), some (.int ((144 * l1) + l3)), some (.int ((144 * l2) + l3)), some (.int (b2i (if (gI h 416 k10) = (gI h 416 k13) then (true) else (false))))] [] h Q)) ∧ (¬ ((gI h 419 k10) = (gI h 419 k13)) → (Q (some (.int 0)) h)))) ∧ (¬ ((gI h 418 k10) = (gI h 418 k13)) → (Q (some (.int 0)) h)))) ∧ (¬ ((gI h 417 k44) = (gI h 417 k47)) → (Q (some (.int 0)) h)))) ∧ (¬ ((gI h 417 k35) = (gI h 417 k38)) → (Q (some (.int 0)) h)))) ∧ (¬ ((if (gI h 416 k10) = (gI h 416 k13) then (true) else (false)) = true) → (Q (some (.int 0)) h)))) ∧ (¬ ((gI h 415 k10) = (gI h 415 k13)) → (Q (some (.int 0)) h)))) ∧ (¬ ((gI h 414 k10) = (gI h 414 k13)) → (Q (some (.int 0)) h)))) ∧ (¬ ((gI h 413 k10) = (gI h 413 k13)) → (Q (some (.int 0)) h)))) ∧ (¬ ((gI h 412 k10) = (gI h 412 k13)) → (Q (some (.int 0)) h))))))) : WP L xs 168 2 [some (.ref 397), some (.int l1), some (.int l2), some (.int l3), z4, z5, z6] [] h Q := by
  refine e_ld (pc' := 3) i168_2 rfl rfl ?_
  refine e_cn (pc' := 6) i168_3 rfl ?_
  refine e_ic (pc' := 9) i168_6 rfl (fun c1 => ?_) (fun c1 => ?_)
  · have d2 : 144 ≤ l3 := (of_decide_eq_true c1)
    replace H := H.1 d2
    refine e_cn (pc' := 231) i168_230 rfl ?_
    refine e_rt i168_231 rfl ?_
    exact H
  · have d3 : ¬ (144 ≤ l3) := (of_decide_eq_false c1)
    replace H := H.2 d3
    refine e_cn (pc' := 12) i168_9 rfl ?_
    refine e_ld (pc' := 13) i168_12 rfl rfl ?_
    refine e_ib (z := 144 * l1) (pc' := 14) i168_13 rfl rfl ?_
    refine e_ld (pc' := 15) i168_14 rfl rfl ?_
    refine e_ib (z := (144 * l1) + l3) (pc' := 16) i168_15 rfl rfl ?_
    refine e_st (ls' := [some (.ref 397), some (.int l1), some (.int l2), some (.int l3), some (.int ((144 * l1) + l3)), z5, z6]) (pc' := 18) i168_16 rfl rfl rfl ?_
    refine e_cn (pc' := 21) i168_18 rfl ?_
    refine e_ld (pc' := 22) i168_21 rfl rfl ?_
    refine e_ib (z := 144 * l2) (pc' := 23) i168_22 rfl rfl ?_
    refine e_ld (pc' := 24) i168_23 rfl rfl ?_
    refine e_ib (z := (144 * l2) + l3) (pc' := 25) i168_24 rfl rfl ?_
    refine e_st (ls' := [some (.ref 397), some (.int l1), some (.int l2), some (.int l3), some (.int ((144 * l1) + l3)), some (.int ((144 * l2) + l3)), z6]) (pc' := 27) i168_25 rfl rfl rfl ?_
    refine e_ld (pc' := 28) i168_27 rfl rfl ?_
    refine e_get (w := .ref 405) (pc' := 31) i168_28 rfl (x_isC (by decide) hw.1 sh397) (x_fvR (by decide +kernel) (hw.2 397 8 405 lk397_8)) ?_
    refine e_ld (pc' := 32) i168_31 rfl rfl ?_
    obtain ⟨k4, e5, g6, H⟩ := H
    refine e_al (n := k4) (w := .int (gI h 405 k4)) (pc' := 33) i168_32 rfl (x_alE (a := 20) (by decide) hw.1 sh405 (by decide) e5 g6 (by decide)) (x_clE e5 g6 (by decide)) rfl ?_
    refine e_if (pc' := 36) i168_33 rfl (fun c7 => ?_) (fun c7 => ?_)
    · have d8 : (gI h 405 k4) = 0 := (of_decide_eq_true c7)
      replace H := H.1 d8
      refine e_cn (pc' := 122) i168_121 rfl ?_
      refine e_go i168_122 ?_
      refine e_st (ls' := [some (.ref 397), some (.int l1), some (.int l2), some (.int l3), some (.int ((144 * l1) + l3)), some (.int ((144 * l2) + l3)), some (.int 1)]) (pc' := 128) i168_126 rfl rfl rfl ?_
      refine e_ld (pc' := 130) i168_128 rfl rfl ?_
      refine e_ifF (pc' := 133) i168_130 rfl (by decide) ?_
      refine e_ld (pc' := 134) i168_133 rfl rfl ?_
      refine e_get (w := .ref 405) (pc' := 137) i168_134 rfl (x_isC (by decide) hw.1 sh397) (x_fvR (by decide +kernel) (hw.2 397 8 405 lk397_8)) ?_
      refine e_ld (pc' := 138) i168_137 rfl rfl ?_
      refine e_al (n := k4) (w := .int (gI h 405 k4)) (pc' := 139) i168_138 rfl (x_alE (a := 20) (by decide) hw.1 sh405 (by decide) e5 g6 (by decide)) (x_clE e5 g6 (by decide)) rfl ?_
      refine e_ifT i168_139 (decide_eq_true d8) ?_
      refine e_inc (z := l3 + 1) (ls' := [some (.ref 397), some (.int l1), some (.int l2), some (.int (l3 + 1)), some (.int ((144 * l1) + l3)), some (.int ((144 * l2) + l3)), some (.int 1)]) (pc' := 227) i168_224 rfl rfl rfl rfl ?_
      refine e_go i168_227 ?_
      exact H
    · have d9 : ¬ ((gI h 405 k4) = 0) := (of_decide_eq_false c7)
      replace H := H.2 d9
      refine e_ld (pc' := 37) i168_36 rfl rfl ?_
      refine e_get (w := .ref 412) (pc' := 40) i168_37 rfl (x_isC (by decide) hw.1 sh397) (x_fvR (by decide +kernel) (hw.2 397 16 412 lk397_16)) ?_
      refine e_ld (pc' := 42) i168_40 rfl rfl ?_
      obtain ⟨k10, e11, g12, H⟩ := H
      refine e_al (n := k10) (w := .int (gI h 412 k10)) (pc' := 43) i168_42 rfl (x_alE (a := 20) (by decide) hw.1 sh412 (by decide) e11 g12 (by decide)) (x_clE e11 g12 (by decide)) rfl ?_
      refine e_ld (pc' := 44) i168_43 rfl rfl ?_
      refine e_get (w := .ref 412) (pc' := 47) i168_44 rfl (x_isC (by decide) hw.1 sh397) (x_fvR (by decide +kernel) (hw.2 397 16 412 lk397_16)) ?_
      refine e_ld (pc' := 49) i168_47 rfl rfl ?_
      obtain ⟨k13, e14, g15, H⟩ := H
      refine e_al (n := k13) (w := .int (gI h 412 k13)) (pc' := 50) i168_49 rfl (x_alE (a := 20) (by decide) hw.1 sh412 (by decide) e14 g15 (by decide)) (x_clE e14 g15 (by decide)) rfl ?_
      refine e_ic (pc' := 53) i168_50 rfl (fun c16 => ?_) (fun c16 => ?_)
      · have d17 : ¬ ((gI h 412 k10) = (gI h 412 k13)) := (of_decide_eq_true c16)
        replace H := H.2 d17
        refine e_cn (pc' := 126) i168_125 rfl ?_
        refine e_st (ls' := [some (.ref 397), some (.int l1), some (.int l2), some (.int l3), some (.int ((144 * l1) + l3)), some (.int ((144 * l2) + l3)), some (.int 0)]) (pc' := 128) i168_126 rfl rfl rfl ?_
        refine e_ld (pc' := 130) i168_128 rfl rfl ?_
        refine e_ifT i168_130 (by decide) ?_
        refine e_cn (pc' := 223) i168_222 rfl ?_
        refine e_rt i168_223 rfl ?_
        exact H
      · have d18 : (gI h 412 k10) = (gI h 412 k13) := (Decidable.not_not.mp (of_decide_eq_false c16))
        replace H := H.1 d18
        refine e_ld (pc' := 54) i168_53 rfl rfl ?_
        refine e_get (w := .ref 413) (pc' := 57) i168_54 rfl (x_isC (by decide) hw.1 sh397) (x_fvR (by decide +kernel) (hw.2 397 17 413 lk397_17)) ?_
        refine e_ld (pc' := 59) i168_57 rfl rfl ?_
        refine e_al (n := k10) (w := .int (gI h 413 k10)) (pc' := 60) i168_59 rfl (x_alE (a := 20) (by decide) hw.1 sh413 (by decide) e11 g12 (by decide)) (x_clE e11 g12 (by decide)) rfl ?_
        refine e_ld (pc' := 61) i168_60 rfl rfl ?_
        refine e_get (w := .ref 413) (pc' := 64) i168_61 rfl (x_isC (by decide) hw.1 sh397) (x_fvR (by decide +kernel) (hw.2 397 17 413 lk397_17)) ?_
        refine e_ld (pc' := 66) i168_64 rfl rfl ?_
        refine e_al (n := k13) (w := .int (gI h 413 k13)) (pc' := 67) i168_66 rfl (x_alE (a := 20) (by decide) hw.1 sh413 (by decide) e14 g15 (by decide)) (x_clE e14 g15 (by decide)) rfl ?_
        refine e_ic (pc' := 70) i168_67 rfl (fun c19 => ?_) (fun c19 => ?_)
        · have d20 : ¬ ((gI h 413 k10) = (gI h 413 k13)) := (of_decide_eq_true c19)
          replace H := H.2 d20
          refine e_cn (pc' := 126) i168_125 rfl ?_
          refine e_st (ls' := [some (.ref 397), some (.int l1), some (.int l2), some (.int l3), some (.int ((144 * l1) + l3)), some (.int ((144 * l2) + l3)), some (.int 0)]) (pc' := 128) i168_126 rfl rfl rfl ?_
          refine e_ld (pc' := 130) i168_128 rfl rfl ?_
          refine e_ifT i168_130 (by decide) ?_
          refine e_cn (pc' := 223) i168_222 rfl ?_
          refine e_rt i168_223 rfl ?_
          exact H
        · have d21 : (gI h 413 k10) = (gI h 413 k13) := (Decidable.not_not.mp (of_decide_eq_false c19))
          replace H := H.1 d21
          refine e_ld (pc' := 71) i168_70 rfl rfl ?_
          refine e_get (w := .ref 414) (pc' := 74) i168_71 rfl (x_isC (by decide) hw.1 sh397) (x_fvR (by decide +kernel) (hw.2 397 18 414 lk397_18)) ?_
          refine e_ld (pc' := 76) i168_74 rfl rfl ?_
          refine e_al (n := k10) (w := .int (gI h 414 k10)) (pc' := 77) i168_76 rfl (x_alE (a := 20) (by decide) hw.1 sh414 (by decide) e11 g12 (by decide)) (x_clE e11 g12 (by decide)) rfl ?_
          refine e_ld (pc' := 78) i168_77 rfl rfl ?_
          refine e_get (w := .ref 414) (pc' := 81) i168_78 rfl (x_isC (by decide) hw.1 sh397) (x_fvR (by decide +kernel) (hw.2 397 18 414 lk397_18)) ?_
          refine e_ld (pc' := 83) i168_81 rfl rfl ?_
          refine e_al (n := k13) (w := .int (gI h 414 k13)) (pc' := 84) i168_83 rfl (x_alE (a := 20) (by decide) hw.1 sh414 (by decide) e14 g15 (by decide)) (x_clE e14 g15 (by decide)) rfl ?_
          refine e_ic (pc' := 87) i168_84 rfl (fun c22 => ?_) (fun c22 => ?_)
          · have d23 : ¬ ((gI h 414 k10) = (gI h 414 k13)) := (of_decide_eq_true c22)
            replace H := H.2 d23
            refine e_cn (pc' := 126) i168_125 rfl ?_
            refine e_st (ls' := [some (.ref 397), some (.int l1), some (.int l2), some (.int l3), some (.int ((144 * l1) + l3)), some (.int ((144 * l2) + l3)), some (.int 0)]) (pc' := 128) i168_126 rfl rfl rfl ?_
            refine e_ld (pc' := 130) i168_128 rfl rfl ?_
            refine e_ifT i168_130 (by decide) ?_
            refine e_cn (pc' := 223) i168_222 rfl ?_
            refine e_rt i168_223 rfl ?_
            exact H
          · have d24 : (gI h 414 k10) = (gI h 414 k13) := (Decidable.not_not.mp (of_decide_eq_false c22))
            replace H := H.1 d24
            refine e_ld (pc' := 88) i168_87 rfl rfl ?_
            refine e_get (w := .ref 415) (pc' := 91) i168_88 rfl (x_isC (by decide) hw.1 sh397) (x_fvR (by decide +kernel) (hw.2 397 19 415 lk397_19)) ?_
            refine e_ld (pc' := 93) i168_91 rfl rfl ?_
            refine e_al (n := k10) (w := .int (gI h 415 k10)) (pc' := 94) i168_93 rfl (x_alE (a := 20) (by decide) hw.1 sh415 (by decide) e11 g12 (by decide)) (x_clE e11 g12 (by decide)) rfl ?_
            refine e_ld (pc' := 95) i168_94 rfl rfl ?_
            refine e_get (w := .ref 415) (pc' := 98) i168_95 rfl (x_isC (by decide) hw.1 sh397) (x_fvR (by decide +kernel) (hw.2 397 19 415 lk397_19)) ?_
            refine e_ld (pc' := 100) i168_98 rfl rfl ?_
            refine e_al (n := k13) (w := .int (gI h 415 k13)) (pc' := 101) i168_100 rfl (x_alE (a := 20) (by decide) hw.1 sh415 (by decide) e14 g15 (by decide)) (x_clE e14 g15 (by decide)) rfl ?_
            refine e_ic (pc' := 104) i168_101 rfl (fun c25 => ?_) (fun c25 => ?_)
            · have d26 : ¬ ((gI h 415 k10) = (gI h 415 k13)) := (of_decide_eq_true c25)
              replace H := H.2 d26
              refine e_cn (pc' := 126) i168_125 rfl ?_
              refine e_st (ls' := [some (.ref 397), some (.int l1), some (.int l2), some (.int l3), some (.int ((144 * l1) + l3)), some (.int ((144 * l2) + l3)), some (.int 0)]) (pc' := 128) i168_126 rfl rfl rfl ?_
              refine e_ld (pc' := 130) i168_128 rfl rfl ?_
              refine e_ifT i168_130 (by decide) ?_
              refine e_cn (pc' := 223) i168_222 rfl ?_
              refine e_rt i168_223 rfl ?_
              exact H
            · have d27 : (gI h 415 k10) = (gI h 415 k13) := (Decidable.not_not.mp (of_decide_eq_false c25))
              replace H := H.1 d27
              refine e_ld (pc' := 105) i168_104 rfl rfl ?_
              refine e_get (w := .ref 416) (pc' := 108) i168_105 rfl (x_isC (by decide) hw.1 sh397) (x_fvR (by decide +kernel) (hw.2 397 20 416 lk397_20)) ?_
              refine e_ld (pc' := 110) i168_108 rfl rfl ?_
              refine e_al (n := k10) (w := .int (gI h 416 k10)) (pc' := 111) i168_110 rfl (x_alE (a := 22) (by decide) hw.1 sh416 (by decide) e11 g12 (by decide)) (x_clE e11 g12 (by decide)) rfl ?_
              refine e_ld (pc' := 112) i168_111 rfl rfl ?_
              refine e_get (w := .ref 416) (pc' := 115) i168_112 rfl (x_isC (by decide) hw.1 sh397) (x_fvR (by decide +kernel) (hw.2 397 20 416 lk397_20)) ?_
              refine e_ld (pc' := 117) i168_115 rfl rfl ?_
              refine e_al (n := k13) (w := .int (gI h 416 k13)) (pc' := 118) i168_117 rfl (x_alE (a := 22) (by decide) hw.1 sh416 (by decide) e14 g15 (by decide)) (x_clE e14 g15 (by decide)) rfl ?_
              refine e_reg (pc' := 126) (ls' := [some (.ref 397), some (.int l1), some (.int l2), some (.int l3), some (.int ((144 * l1) + l3)), some (.int ((144 * l2) + l3)), z6]) (st' := [.int (b2i (if (gI h 416 k10) = (gI h 416 k13) then (true) else (false)))]) (fun kj28 => ?_) ?_
              · skip
                refine e_ic (pc' := 121) i168_118 rfl (fun c29 => ?_) (fun c29 => ?_)
                · have d30 : ¬ ((gI h 416 k10) = (gI h 416 k13)) := (of_decide_eq_true c29)
                  refine e_cn (pc' := 126) i168_125 rfl ?_
                  exact (by simp only [if_neg d30] at kj28 ⊢; exact kj28)
                · have d31 : (gI h 416 k10) = (gI h 416 k13) := (Decidable.not_not.mp (of_decide_eq_false c29))
                  refine e_cn (pc' := 122) i168_121 rfl ?_
                  refine e_go i168_122 ?_
                  exact (by simp only [if_pos d31] at kj28 ⊢; exact kj28)
              refine e_st (ls' := [some (.ref 397), some (.int l1), some (.int l2), some (.int l3), some (.int ((144 * l1) + l3)), some (.int ((144 * l2) + l3)), some (.int (b2i (if (gI h 416 k10) = (gI h 416 k13) then (true) else (false))))]) (pc' := 128) i168_126 rfl rfl rfl ?_
              refine e_ld (pc' := 130) i168_128 rfl rfl ?_
              refine e_b0 (pc' := 133) i168_130 rfl (fun c32 => ?_) (fun c32 => ?_)
              · have d33 : ¬ ((if (gI h 416 k10) = (gI h 416 k13) then (true) else (false)) = true) := (show ¬ (if (gI h 416 k10) = (gI h 416 k13) then (true) else (false)) = true by rw [c32]; decide)
                replace H := H.2 d33
                refine e_cn (pc' := 223) i168_222 rfl ?_
                refine e_rt i168_223 rfl ?_
                exact H
              · have d34 : (if (gI h 416 k10) = (gI h 416 k13) then (true) else (false)) = true := c32
                replace H := H.1 d34
                refine e_ld (pc' := 134) i168_133 rfl rfl ?_
                refine e_get (w := .ref 405) (pc' := 137) i168_134 rfl (x_isC (by decide) hw.1 sh397) (x_fvR (by decide +kernel) (hw.2 397 8 405 lk397_8)) ?_
                refine e_ld (pc' := 138) i168_137 rfl rfl ?_
                refine e_al (n := k4) (w := .int (gI h 405 k4)) (pc' := 139) i168_138 rfl (x_alE (a := 20) (by decide) hw.1 sh405 (by decide) e5 g6 (by decide)) (x_clE e5 g6 (by decide)) rfl ?_
                refine e_ifF (pc' := 142) i168_139 rfl (decide_eq_false d9) ?_
                refine e_ld (pc' := 143) i168_142 rfl rfl ?_
                refine e_get (w := .ref 417) (pc' := 146) i168_143 rfl (x_isC (by decide) hw.1 sh397) (x_fvR (by decide +kernel) (hw.2 397 21 417 lk397_21)) ?_
                refine e_cn (pc' := 147) i168_146 rfl ?_
                refine e_ld (pc' := 149) i168_147 rfl rfl ?_
                refine e_ib (z := 2 * ((144 * l1) + l3)) (pc' := 150) i168_149 rfl rfl ?_
                obtain ⟨k35, e36, g37, H⟩ := H
                refine e_al (n := k35) (w := .int (gI h 417 k35)) (pc' := 151) i168_150 rfl (x_alE (a := 20) (by decide) hw.1 sh417 (by decide) e36 g37 (by decide)) (x_clE e36 g37 (by decide)) rfl ?_
                refine e_ld (pc' := 152) i168_151 rfl rfl ?_
                refine e_get (w := .ref 417) (pc' := 155) i168_152 rfl (x_isC (by decide) hw.1 sh397) (x_fvR (by decide +kernel) (hw.2 397 21 417 lk397_21)) ?_
                refine e_cn (pc' := 156) i168_155 rfl ?_
                refine e_ld (pc' := 158) i168_156 rfl rfl ?_
                refine e_ib (z := 2 * ((144 * l2) + l3)) (pc' := 159) i168_158 rfl rfl ?_
                obtain ⟨k38, e39, g40, H⟩ := H
                refine e_al (n := k38) (w := .int (gI h 417 k38)) (pc' := 160) i168_159 rfl (x_alE (a := 20) (by decide) hw.1 sh417 (by decide) e39 g40 (by decide)) (x_clE e39 g40 (by decide)) rfl ?_
                refine e_ic (pc' := 163) i168_160 rfl (fun c41 => ?_) (fun c41 => ?_)
                · have d42 : ¬ ((gI h 417 k35) = (gI h 417 k38)) := (of_decide_eq_true c41)
                  replace H := H.2 d42
                  refine e_cn (pc' := 223) i168_222 rfl ?_
                  refine e_rt i168_223 rfl ?_
                  exact H
                · have d43 : (gI h 417 k35) = (gI h 417 k38) := (Decidable.not_not.mp (of_decide_eq_false c41))
                  replace H := H.1 d43
                  refine e_ld (pc' := 164) i168_163 rfl rfl ?_
                  refine e_get (w := .ref 417) (pc' := 167) i168_164 rfl (x_isC (by decide) hw.1 sh397) (x_fvR (by decide +kernel) (hw.2 397 21 417 lk397_21)) ?_
                  refine e_cn (pc' := 168) i168_167 rfl ?_
                  refine e_ld (pc' := 170) i168_168 rfl rfl ?_
                  refine e_ib (z := 2 * ((144 * l1) + l3)) (pc' := 171) i168_170 rfl rfl ?_
                  refine e_cn (pc' := 172) i168_171 rfl ?_
                  refine e_ib (z := (2 * ((144 * l1) + l3)) + 1) (pc' := 173) i168_172 rfl rfl ?_
                  obtain ⟨k44, e45, g46, H⟩ := H
                  refine e_al (n := k44) (w := .int (gI h 417 k44)) (pc' := 174) i168_173 rfl (x_alE (a := 20) (by decide) hw.1 sh417 (by decide) e45 g46 (by decide)) (x_clE e45 g46 (by decide)) rfl ?_
                  refine e_ld (pc' := 175) i168_174 rfl rfl ?_
                  refine e_get (w := .ref 417) (pc' := 178) i168_175 rfl (x_isC (by decide) hw.1 sh397) (x_fvR (by decide +kernel) (hw.2 397 21 417 lk397_21)) ?_
                  refine e_cn (pc' := 179) i168_178 rfl ?_
                  refine e_ld (pc' := 181) i168_179 rfl rfl ?_
                  refine e_ib (z := 2 * ((144 * l2) + l3)) (pc' := 182) i168_181 rfl rfl ?_
                  refine e_cn (pc' := 183) i168_182 rfl ?_
                  refine e_ib (z := (2 * ((144 * l2) + l3)) + 1) (pc' := 184) i168_183 rfl rfl ?_
                  obtain ⟨k47, e48, g49, H⟩ := H
                  refine e_al (n := k47) (w := .int (gI h 417 k47)) (pc' := 185) i168_184 rfl (x_alE (a := 20) (by decide) hw.1 sh417 (by decide) e48 g49 (by decide)) (x_clE e48 g49 (by decide)) rfl ?_
                  refine e_ic (pc' := 188) i168_185 rfl (fun c50 => ?_) (fun c50 => ?_)
                  · have d51 : ¬ ((gI h 417 k44) = (gI h 417 k47)) := (of_decide_eq_true c50)
                    replace H := H.2 d51
                    refine e_cn (pc' := 223) i168_222 rfl ?_
                    refine e_rt i168_223 rfl ?_
                    exact H
                  · have d52 : (gI h 417 k44) = (gI h 417 k47) := (Decidable.not_not.mp (of_decide_eq_false c50))
                    replace H := H.1 d52
                    refine e_ld (pc' := 189) i168_188 rfl rfl ?_
                    refine e_get (w := .ref 418) (pc' := 192) i168_189 rfl (x_isC (by decide) hw.1 sh397) (x_fvR (by decide +kernel) (hw.2 397 22 418 lk397_22)) ?_
                    refine e_ld (pc' := 194) i168_192 rfl rfl ?_
                    refine e_al (n := k10) (w := .int (gI h 418 k10)) (pc' := 195) i168_194 rfl (x_alE (a := 20) (by decide) hw.1 sh418 (by decide) e11 g12 (by decide)) (x_clE e11 g12 (by decide)) rfl ?_
                    refine e_ld (pc' := 196) i168_195 rfl rfl ?_
                    refine e_get (w := .ref 418) (pc' := 199) i168_196 rfl (x_isC (by decide) hw.1 sh397) (x_fvR (by decide +kernel) (hw.2 397 22 418 lk397_22)) ?_
                    refine e_ld (pc' := 201) i168_199 rfl rfl ?_
                    refine e_al (n := k13) (w := .int (gI h 418 k13)) (pc' := 202) i168_201 rfl (x_alE (a := 20) (by decide) hw.1 sh418 (by decide) e14 g15 (by decide)) (x_clE e14 g15 (by decide)) rfl ?_
                    refine e_ic (pc' := 205) i168_202 rfl (fun c53 => ?_) (fun c53 => ?_)
                    · have d54 : ¬ ((gI h 418 k10) = (gI h 418 k13)) := (of_decide_eq_true c53)
                      replace H := H.2 d54
                      refine e_cn (pc' := 223) i168_222 rfl ?_
                      refine e_rt i168_223 rfl ?_
                      exact H
                    · have d55 : (gI h 418 k10) = (gI h 418 k13) := (Decidable.not_not.mp (of_decide_eq_false c53))
                      replace H := H.1 d55
                      refine e_ld (pc' := 206) i168_205 rfl rfl ?_
                      refine e_get (w := .ref 419) (pc' := 209) i168_206 rfl (x_isC (by decide) hw.1 sh397) (x_fvR (by decide +kernel) (hw.2 397 23 419 lk397_23)) ?_
                      refine e_ld (pc' := 211) i168_209 rfl rfl ?_
                      refine e_al (n := k10) (w := .int (gI h 419 k10)) (pc' := 212) i168_211 rfl (x_alE (a := 20) (by decide) hw.1 sh419 (by decide) e11 g12 (by decide)) (x_clE e11 g12 (by decide)) rfl ?_
                      refine e_ld (pc' := 213) i168_212 rfl rfl ?_
                      refine e_get (w := .ref 419) (pc' := 216) i168_213 rfl (x_isC (by decide) hw.1 sh397) (x_fvR (by decide +kernel) (hw.2 397 23 419 lk397_23)) ?_
                      refine e_ld (pc' := 218) i168_216 rfl rfl ?_
                      refine e_al (n := k13) (w := .int (gI h 419 k13)) (pc' := 219) i168_218 rfl (x_alE (a := 20) (by decide) hw.1 sh419 (by decide) e14 g15 (by decide)) (x_clE e14 g15 (by decide)) rfl ?_
                      refine e_ic (pc' := 222) i168_219 rfl (fun c56 => ?_) (fun c56 => ?_)
                      · have d57 : (gI h 419 k10) = (gI h 419 k13) := (of_decide_eq_true c56)
                        replace H := H.1 d57
                        refine e_inc (z := l3 + 1) (ls' := [some (.ref 397), some (.int l1), some (.int l2), some (.int (l3 + 1)), some (.int ((144 * l1) + l3)), some (.int ((144 * l2) + l3)), some (.int (b2i (if (gI h 416 k10) = (gI h 416 k13) then (true) else (false))))]) (pc' := 227) i168_224 rfl rfl rfl rfl ?_
                        refine e_go i168_227 ?_
                        exact H
                      · have d58 : ¬ ((gI h 419 k10) = (gI h 419 k13)) := (of_decide_eq_false c56)
                        replace H := H.2 d58
                        refine e_cn (pc' := 223) i168_222 rfl ?_
                        refine e_rt i168_223 rfl ?_
                        exact H
-- FloorTurnModel.findLength(I)I
set_option maxHeartbeats 8000000 in
set_option maxRecDepth 100000 in
theorem v169 {L : Nat} {xs : Nat → Int32} {Q : Option Value → Hp → Prop} {h : Hp} {x : Int32} (hw : HW h) 
  (H : ∃ (h1 : Hp), Sp L xs 167 [.ref 397, .int 1, .int 0] h none h1 ∧ ∃ (h4 : Hp), Sp L xs 167 [.ref 397, .int 2, .int 0] h1 none h4 ∧ WP L xs 169 19 [some (.ref 397), some (.int x), some (.int 0), some (.int 1), some (.int 0)] [] h4 Q) : ∃ r h', Sp L xs 169 [.ref 397, .int x] h r h' ∧ Q r h' := by
  refine sp_ex (ls := [some (.ref 397), some (.int x), none, none, none]) rfl ?_
  refine e_ld (pc' := 1) i169_0 rfl rfl ?_
  refine e_cn (pc' := 2) i169_1 rfl ?_
  refine e_cn (pc' := 3) i169_2 rfl ?_
  obtain ⟨h1, s2, H⟩ := H
  have w4q := HW_sp (show x_okm 167 = true by rfl) s2 hw
  have w4 : HW h1 := w4q.1
  refine e_cV (As := [.ref 397, .int 1, .int 0]) (rest := []) (pc' := 6) i169_3 rfl rfl rfl rfl (by show (Nat.beq (x_kd 167) 0 && x_is 397 _ (MC 167) 0) = true; rw [show x_kd 167 = 0 by decide +kernel, show MC 167 = 11 by decide +kernel, (x_isC (by decide) hw.1 sh397)]; rfl) s2 ?_
  refine e_ld (pc' := 7) i169_6 rfl rfl ?_
  refine e_cn (pc' := 8) i169_7 rfl ?_
  refine e_cn (pc' := 9) i169_8 rfl ?_
  obtain ⟨h4, s5, H⟩ := H
  have w8q := HW_sp (show x_okm 167 = true by rfl) s5 w4
  have w8 : HW h4 := w8q.1
  refine e_cV (As := [.ref 397, .int 2, .int 0]) (rest := []) (pc' := 12) i169_9 rfl rfl rfl rfl (by show (Nat.beq (x_kd 167) 0 && x_is 397 _ (MC 167) 0) = true; rw [show x_kd 167 = 0 by decide +kernel, show MC 167 = 11 by decide +kernel, (x_isC (by decide) w4.1 sh397)]; rfl) s5 ?_
  refine e_cn (pc' := 13) i169_12 rfl ?_
  refine e_st (ls' := [some (.ref 397), some (.int x), some (.int 0), none, none]) (pc' := 14) i169_13 rfl rfl rfl ?_
  refine e_cn (pc' := 15) i169_14 rfl ?_
  refine e_st (ls' := [some (.ref 397), some (.int x), some (.int 0), some (.int 1), none]) (pc' := 16) i169_15 rfl rfl rfl ?_
  refine e_cn (pc' := 17) i169_16 rfl ?_
  refine e_st (ls' := [some (.ref 397), some (.int x), some (.int 0), some (.int 1), some (.int 0)]) (pc' := 19) i169_17 rfl rfl rfl ?_
  exact H
set_option maxHeartbeats 8000000 in
set_option maxRecDepth 100000 in
theorem v169_19 {L : Nat} {xs : Nat → Int32} {Q : Option Value → Hp → Prop} {h : Hp} {l1 : Int32} {l2 : Int32} {l3 : Int32} {l4 : Int32} (hw : HW h) 
  (H : ((l1 ≤ l4) → (Q (some (.int 0)) h)) ∧ (¬ (l1 ≤ l4) → (((l2 = l3) → (∃ (h15 : Hp), Sp L xs 167 [.ref 397, .int 2, .int 1] h none h15 ∧ ∃ (h18 : Hp), Sp L xs 162 [.ref 397, .int 1] h15 none h18 ∧ ∃ (r22 : Int32), Sp L xs 168 [.ref 397, .int 1, .int 2] h18 (some (.int r22)) h18 ∧ ((r22 = 0) → (WP L xs 169 19 [some (.ref 397), some (.int l1), some (.int ((0 : Int32) + 1)), some (.int (l3 * 2)), some (.int (l4 + 1))] [] h18 Q)) ∧ (¬ (r22 = 0) → (Q (some (.int ((0 : Int32) + 1))) h18)))) ∧ (¬ (l2 = l3) → (∃ (h6 : Hp), Sp L xs 162 [.ref 397, .int 1] h none h6 ∧ ∃ (r10 : Int32), Sp L xs 168 [.ref 397, .int 1, .int 2] h6 (some (.int r10)) h6 ∧ ((r10 = 0) → (WP L xs 169 19 [some (.ref 397), some (.int l1), some (.int (l2 + 1)), some (.int l3), some (.int (l4 + 1))] [] h6 Q)) ∧ (¬ (r10 = 0) → (Q (some (.int (l2 + 1))) h6))))))) : WP L xs 169 19 [some (.ref 397), some (.int l1), some (.int l2), some (.int l3), some (.int l4)] [] h Q := by
  refine e_ld (pc' := 21) i169_19 rfl rfl ?_
  refine e_ld (pc' := 22) i169_21 rfl rfl ?_
  refine e_ic (pc' := 25) i169_22 rfl (fun c1 => ?_) (fun c1 => ?_)
  · have d2 : l1 ≤ l4 := (of_decide_eq_true c1)
    replace H := H.1 d2
    refine e_cn (pc' := 68) i169_67 rfl ?_
    refine e_rt i169_68 rfl ?_
    exact H
  · have d3 : ¬ (l1 ≤ l4) := (of_decide_eq_false c1)
    replace H := H.2 d3
    refine e_ld (pc' := 26) i169_25 rfl rfl ?_
    refine e_ld (pc' := 27) i169_26 rfl rfl ?_
    refine e_ic (pc' := 30) i169_27 rfl (fun c4 => ?_) (fun c4 => ?_)
    · have d5 : ¬ (l2 = l3) := (of_decide_eq_true c4)
      replace H := H.2 d5
      refine e_ld (pc' := 43) i169_42 rfl rfl ?_
      refine e_cn (pc' := 44) i169_43 rfl ?_
      obtain ⟨h6, s7, H⟩ := H
      have w9q := HW_sp (show x_okm 162 = true by rfl) s7 hw
      have w9 : HW h6 := w9q.1
      refine e_cV (As := [.ref 397, .int 1]) (rest := []) (pc' := 47) i169_44 rfl rfl rfl rfl (by show (Nat.beq (x_kd 162) 0 && x_is 397 _ (MC 162) 0) = true; rw [show x_kd 162 = 0 by decide +kernel, show MC 162 = 11 by decide +kernel, (x_isC (by decide) hw.1 sh397)]; rfl) s7 ?_
      refine e_inc (z := l2 + 1) (ls' := [some (.ref 397), some (.int l1), some (.int (l2 + 1)), some (.int l3), some (.int l4)]) (pc' := 50) i169_47 rfl rfl rfl rfl ?_
      refine e_ld (pc' := 51) i169_50 rfl rfl ?_
      refine e_cn (pc' := 52) i169_51 rfl ?_
      refine e_cn (pc' := 53) i169_52 rfl ?_
      obtain ⟨r10, s9, H⟩ := H
      refine e_cI (w := .int r10) (As := [.ref 397, .int 1, .int 2]) (rest := []) (pc' := 56) i169_53 rfl rfl rfl rfl (by show (Nat.beq (x_kd 168) 0 && x_is 397 _ (MC 168) 0) = true; rw [show x_kd 168 = 0 by decide +kernel, show MC 168 = 11 by decide +kernel, (x_isC (by decide) w9.1 sh397)]; rfl) s9 ?_
      refine e_if (pc' := 59) i169_56 rfl (fun c11 => ?_) (fun c11 => ?_)
      · have d12 : r10 = 0 := (of_decide_eq_true c11)
        replace H := H.1 d12
        refine e_inc (z := l4 + 1) (ls' := [some (.ref 397), some (.int l1), some (.int (l2 + 1)), some (.int l3), some (.int (l4 + 1))]) (pc' := 64) i169_61 rfl rfl rfl rfl ?_
        refine e_go i169_64 ?_
        exact H
      · have d13 : ¬ (r10 = 0) := (of_decide_eq_false c11)
        replace H := H.2 d13
        refine e_ld (pc' := 60) i169_59 rfl rfl ?_
        refine e_rt i169_60 rfl ?_
        exact H
    · have d14 : l2 = l3 := (Decidable.not_not.mp (of_decide_eq_false c4))
      replace H := H.1 d14
      refine e_ld (pc' := 31) i169_30 rfl rfl ?_
      refine e_cn (pc' := 32) i169_31 rfl ?_
      refine e_cn (pc' := 33) i169_32 rfl ?_
      obtain ⟨h15, s16, H⟩ := H
      have w18q := HW_sp (show x_okm 167 = true by rfl) s16 hw
      have w18 : HW h15 := w18q.1
      refine e_cV (As := [.ref 397, .int 2, .int 1]) (rest := []) (pc' := 36) i169_33 rfl rfl rfl rfl (by show (Nat.beq (x_kd 167) 0 && x_is 397 _ (MC 167) 0) = true; rw [show x_kd 167 = 0 by decide +kernel, show MC 167 = 11 by decide +kernel, (x_isC (by decide) hw.1 sh397)]; rfl) s16 ?_
      refine e_ld (pc' := 37) i169_36 rfl rfl ?_
      refine e_cn (pc' := 38) i169_37 rfl ?_
      refine e_ib (z := l3 * 2) (pc' := 39) i169_38 rfl rfl ?_
      refine e_st (ls' := [some (.ref 397), some (.int l1), some (.int l2), some (.int (l3 * 2)), some (.int l4)]) (pc' := 40) i169_39 rfl rfl rfl ?_
      refine e_cn (pc' := 41) i169_40 rfl ?_
      refine e_st (ls' := [some (.ref 397), some (.int l1), some (.int 0), some (.int (l3 * 2)), some (.int l4)]) (pc' := 42) i169_41 rfl rfl rfl ?_
      refine e_ld (pc' := 43) i169_42 rfl rfl ?_
      refine e_cn (pc' := 44) i169_43 rfl ?_
      obtain ⟨h18, s19, H⟩ := H
      have w22q := HW_sp (show x_okm 162 = true by rfl) s19 w18
      have w22 : HW h18 := w22q.1
      refine e_cV (As := [.ref 397, .int 1]) (rest := []) (pc' := 47) i169_44 rfl rfl rfl rfl (by show (Nat.beq (x_kd 162) 0 && x_is 397 _ (MC 162) 0) = true; rw [show x_kd 162 = 0 by decide +kernel, show MC 162 = 11 by decide +kernel, (x_isC (by decide) w18.1 sh397)]; rfl) s19 ?_
      refine e_inc (z := (0 : Int32) + 1) (ls' := [some (.ref 397), some (.int l1), some (.int ((0 : Int32) + 1)), some (.int (l3 * 2)), some (.int l4)]) (pc' := 50) i169_47 rfl rfl rfl rfl ?_
      refine e_ld (pc' := 51) i169_50 rfl rfl ?_
      refine e_cn (pc' := 52) i169_51 rfl ?_
      refine e_cn (pc' := 53) i169_52 rfl ?_
      obtain ⟨r22, s21, H⟩ := H
      refine e_cI (w := .int r22) (As := [.ref 397, .int 1, .int 2]) (rest := []) (pc' := 56) i169_53 rfl rfl rfl rfl (by show (Nat.beq (x_kd 168) 0 && x_is 397 _ (MC 168) 0) = true; rw [show x_kd 168 = 0 by decide +kernel, show MC 168 = 11 by decide +kernel, (x_isC (by decide) w22.1 sh397)]; rfl) s21 ?_
      refine e_if (pc' := 59) i169_56 rfl (fun c23 => ?_) (fun c23 => ?_)
      · have d24 : r22 = 0 := (of_decide_eq_true c23)
        replace H := H.1 d24
        refine e_inc (z := l4 + 1) (ls' := [some (.ref 397), some (.int l1), some (.int ((0 : Int32) + 1)), some (.int (l3 * 2)), some (.int (l4 + 1))]) (pc' := 64) i169_61 rfl rfl rfl rfl ?_
        refine e_go i169_64 ?_
        exact H
      · have d25 : ¬ (r22 = 0) := (of_decide_eq_false c23)
        replace H := H.2 d25
        refine e_ld (pc' := 60) i169_59 rfl rfl ?_
        refine e_rt i169_60 rfl ?_
        exact H
-- FloorTurnModel.findFirst(II)I
set_option maxHeartbeats 8000000 in
set_option maxRecDepth 100000 in
theorem v170 {L : Nat} {xs : Nat → Int32} {Q : Option Value → Hp → Prop} {h : Hp} {x : Int32} {y : Int32} (hw : HW h) 
  (H : ∃ (h1 : Hp), Sp L xs 167 [.ref 397, .int 1, .int 0] h none h1 ∧ ∃ (h4 : Hp), Sp L xs 167 [.ref 397, .int 2, .int 0] h1 none h4 ∧ WP L xs 170 14 [some (.ref 397), some (.int x), some (.int y), some (.int 0)] [] h4 Q) : ∃ r h', Sp L xs 170 [.ref 397, .int x, .int y] h r h' ∧ Q r h' := by
  refine sp_ex (ls := [some (.ref 397), some (.int x), some (.int y), none]) rfl ?_
  refine e_ld (pc' := 1) i170_0 rfl rfl ?_
  refine e_cn (pc' := 2) i170_1 rfl ?_
  refine e_cn (pc' := 3) i170_2 rfl ?_
  obtain ⟨h1, s2, H⟩ := H
  have w4q := HW_sp (show x_okm 167 = true by rfl) s2 hw
  have w4 : HW h1 := w4q.1
  refine e_cV (As := [.ref 397, .int 1, .int 0]) (rest := []) (pc' := 6) i170_3 rfl rfl rfl rfl (by show (Nat.beq (x_kd 167) 0 && x_is 397 _ (MC 167) 0) = true; rw [show x_kd 167 = 0 by decide +kernel, show MC 167 = 11 by decide +kernel, (x_isC (by decide) hw.1 sh397)]; rfl) s2 ?_
  refine e_ld (pc' := 7) i170_6 rfl rfl ?_
  refine e_cn (pc' := 8) i170_7 rfl ?_
  refine e_cn (pc' := 9) i170_8 rfl ?_
  obtain ⟨h4, s5, H⟩ := H
  have w8q := HW_sp (show x_okm 167 = true by rfl) s5 w4
  have w8 : HW h4 := w8q.1
  refine e_cV (As := [.ref 397, .int 2, .int 0]) (rest := []) (pc' := 12) i170_9 rfl rfl rfl rfl (by show (Nat.beq (x_kd 167) 0 && x_is 397 _ (MC 167) 0) = true; rw [show x_kd 167 = 0 by decide +kernel, show MC 167 = 11 by decide +kernel, (x_isC (by decide) w4.1 sh397)]; rfl) s5 ?_
  refine e_cn (pc' := 13) i170_12 rfl ?_
  refine e_st (ls' := [some (.ref 397), some (.int x), some (.int y), some (.int 0)]) (pc' := 14) i170_13 rfl rfl rfl ?_
  exact H
set_option maxHeartbeats 8000000 in
set_option maxRecDepth 100000 in
theorem v170_14 {L : Nat} {xs : Nat → Int32} {Q : Option Value → Hp → Prop} {h : Hp} {l1 : Int32} {l2 : Int32} {l3 : Int32} (hw : HW h) 
  (H : ((l1 ≤ l3) → (WP L xs 170 32 [some (.ref 397), some (.int l1), some (.int l2), some (.int 0)] [] h Q)) ∧ (¬ (l1 ≤ l3) → (∃ (h4 : Hp), Sp L xs 162 [.ref 397, .int 2] h none h4 ∧ WP L xs 170 14 [some (.ref 397), some (.int l1), some (.int l2), some (.int (l3 + 1))] [] h4 Q))) : WP L xs 170 14 [some (.ref 397), some (.int l1), some (.int l2), some (.int l3)] [] h Q := by
  refine e_ld (pc' := 15) i170_14 rfl rfl ?_
  refine e_ld (pc' := 16) i170_15 rfl rfl ?_
  refine e_ic (pc' := 19) i170_16 rfl (fun c1 => ?_) (fun c1 => ?_)
  · have d2 : l1 ≤ l3 := (of_decide_eq_true c1)
    replace H := H.1 d2
    refine e_cn (pc' := 31) i170_30 rfl ?_
    refine e_st (ls' := [some (.ref 397), some (.int l1), some (.int l2), some (.int 0)]) (pc' := 32) i170_31 rfl rfl rfl ?_
    exact H
  · have d3 : ¬ (l1 ≤ l3) := (of_decide_eq_false c1)
    replace H := H.2 d3
    refine e_ld (pc' := 20) i170_19 rfl rfl ?_
    refine e_cn (pc' := 21) i170_20 rfl ?_
    obtain ⟨h4, s5, H⟩ := H
    have w7q := HW_sp (show x_okm 162 = true by rfl) s5 hw
    have w7 : HW h4 := w7q.1
    refine e_cV (As := [.ref 397, .int 2]) (rest := []) (pc' := 24) i170_21 rfl rfl rfl rfl (by show (Nat.beq (x_kd 162) 0 && x_is 397 _ (MC 162) 0) = true; rw [show x_kd 162 = 0 by decide +kernel, show MC 162 = 11 by decide +kernel, (x_isC (by decide) hw.1 sh397)]; rfl) s5 ?_
    refine e_inc (z := l3 + 1) (ls' := [some (.ref 397), some (.int l1), some (.int l2), some (.int (l3 + 1))]) (pc' := 27) i170_24 rfl rfl rfl rfl ?_
    refine e_go i170_27 ?_
    exact H
set_option maxHeartbeats 8000000 in
set_option maxRecDepth 100000 in
theorem v170_32 {L : Nat} {xs : Nat → Int32} {Q : Option Value → Hp → Prop} {h : Hp} {z1 : Option Value} {l2 : Int32} {l3 : Int32} (hw : HW h) 
  (H : ∃ (r2 : Int32), Sp L xs 168 [.ref 397, .int 1, .int 2] h (some (.int r2)) h ∧ ((r2 = 0) → (((l2 < l3) → (Q (some (.int l3)) h)) ∧ (¬ (l2 < l3) → (∃ (h9 : Hp), Sp L xs 162 [.ref 397, .int 1] h none h9 ∧ ∃ (h12 : Hp), Sp L xs 162 [.ref 397, .int 2] h9 none h12 ∧ WP L xs 170 32 [some (.ref 397), z1, some (.int l2), some (.int (l3 + 1))] [] h12 Q)))) ∧ (¬ (r2 = 0) → (Q (some (.int l3)) h))) : WP L xs 170 32 [some (.ref 397), z1, some (.int l2), some (.int l3)] [] h Q := by
  refine e_ld (pc' := 33) i170_32 rfl rfl ?_
  refine e_cn (pc' := 34) i170_33 rfl ?_
  refine e_cn (pc' := 35) i170_34 rfl ?_
  obtain ⟨r2, s1, H⟩ := H
  refine e_cI (w := .int r2) (As := [.ref 397, .int 1, .int 2]) (rest := []) (pc' := 38) i170_35 rfl rfl rfl rfl (by show (Nat.beq (x_kd 168) 0 && x_is 397 _ (MC 168) 0) = true; rw [show x_kd 168 = 0 by decide +kernel, show MC 168 = 11 by decide +kernel, (x_isC (by decide) hw.1 sh397)]; rfl) s1 ?_
  refine e_if (pc' := 41) i170_38 rfl (fun c3 => ?_) (fun c3 => ?_)
  · have d4 : ¬ (r2 = 0) := (of_decide_eq_true c3)
    replace H := H.2 d4
    refine e_ld (pc' := 63) i170_62 rfl rfl ?_
    refine e_rt i170_63 rfl ?_
    exact H
  · have d5 : r2 = 0 := (Decidable.not_not.mp (of_decide_eq_false c3))
    replace H := H.1 d5
    refine e_ld (pc' := 42) i170_41 rfl rfl ?_
    refine e_ld (pc' := 43) i170_42 rfl rfl ?_
    refine e_ic (pc' := 46) i170_43 rfl (fun c6 => ?_) (fun c6 => ?_)
    · have d7 : l2 < l3 := (of_decide_eq_true c6)
      replace H := H.1 d7
      refine e_ld (pc' := 63) i170_62 rfl rfl ?_
      refine e_rt i170_63 rfl ?_
      exact H
    · have d8 : ¬ (l2 < l3) := (of_decide_eq_false c6)
      replace H := H.2 d8
      refine e_ld (pc' := 47) i170_46 rfl rfl ?_
      refine e_cn (pc' := 48) i170_47 rfl ?_
      obtain ⟨h9, s10, H⟩ := H
      have w12q := HW_sp (show x_okm 162 = true by rfl) s10 hw
      have w12 : HW h9 := w12q.1
      refine e_cV (As := [.ref 397, .int 1]) (rest := []) (pc' := 51) i170_48 rfl rfl rfl rfl (by show (Nat.beq (x_kd 162) 0 && x_is 397 _ (MC 162) 0) = true; rw [show x_kd 162 = 0 by decide +kernel, show MC 162 = 11 by decide +kernel, (x_isC (by decide) hw.1 sh397)]; rfl) s10 ?_
      refine e_ld (pc' := 52) i170_51 rfl rfl ?_
      refine e_cn (pc' := 53) i170_52 rfl ?_
      obtain ⟨h12, s13, H⟩ := H
      have w16q := HW_sp (show x_okm 162 = true by rfl) s13 w12
      have w16 : HW h12 := w16q.1
      refine e_cV (As := [.ref 397, .int 2]) (rest := []) (pc' := 56) i170_53 rfl rfl rfl rfl (by show (Nat.beq (x_kd 162) 0 && x_is 397 _ (MC 162) 0) = true; rw [show x_kd 162 = 0 by decide +kernel, show MC 162 = 11 by decide +kernel, (x_isC (by decide) w12.1 sh397)]; rfl) s13 ?_
      refine e_inc (z := l3 + 1) (ls' := [some (.ref 397), z1, some (.int l2), some (.int (l3 + 1))]) (pc' := 59) i170_56 rfl rfl rfl rfl ?_
      refine e_go i170_59 ?_
      exact H
-- FloorTurnModel.powers()I
set_option maxHeartbeats 8000000 in
set_option maxRecDepth 100000 in
theorem v171 {L : Nat} {xs : Nat → Int32} {Q : Option Value → Hp → Prop} {h : Hp}  (hw : HW h) 
  (H : WP L xs 171 4 [some (.ref 397), some (.int 0), some (.int 0)] [] h Q) : ∃ r h', Sp L xs 171 [.ref 397] h r h' ∧ Q r h' := by
  refine sp_ex (ls := [some (.ref 397), none, none]) rfl ?_
  refine e_cn (pc' := 1) i171_0 rfl ?_
  refine e_st (ls' := [some (.ref 397), some (.int 0), none]) (pc' := 2) i171_1 rfl rfl rfl ?_
  refine e_cn (pc' := 3) i171_2 rfl ?_
  refine e_st (ls' := [some (.ref 397), some (.int 0), some (.int 0)]) (pc' := 4) i171_3 rfl rfl rfl ?_
  exact H
set_option maxHeartbeats 8000000 in
set_option maxRecDepth 100000 in
theorem v171_4 {L : Nat} {xs : Nat → Int32} {Q : Option Value → Hp → Prop} {h : Hp} {l1 : Int32} {l2 : Int32} (hw : HW h) 
  (H : ((144 ≤ l2) → (Q (some (.int l1)) h)) ∧ (¬ (144 ≤ l2) → (∃ k4 : Nat, l2 = nI k4 ∧ k4 < 144 ∧ (((gI h 405 k4) = 6) → (∃ k10 : Nat, (144 + l2) = nI k10 ∧ k10 < 432 ∧ (((gI h 416 k10) = 0) → (WP L xs 171 4 [some (.ref 397), some (.int (l1 + 0)), some (.int (l2 + 1))] [] h Q)) ∧ (¬ ((gI h 416 k10) = 0) → (∃ k16 : Nat, (gI h 407 k4) = nI k16 ∧ k16 < 8 ∧ WP L xs 171 4 [some (.ref 397), some (.int (l1 + (gI h 404 k16))), some (.int (l2 + 1))] [] h Q)))) ∧ (¬ ((gI h 405 k4) = 6) → (WP L xs 171 4 [some (.ref 397), some (.int (l1 + 0)), some (.int (l2 + 1))] [] h Q))))) : WP L xs 171 4 [some (.ref 397), some (.int l1), some (.int l2)] [] h Q := by
  refine e_ld (pc' := 5) i171_4 rfl rfl ?_
  refine e_cn (pc' := 8) i171_5 rfl ?_
  refine e_ic (pc' := 11) i171_8 rfl (fun c1 => ?_) (fun c1 => ?_)
  · have d2 : 144 ≤ l2 := (of_decide_eq_true c1)
    replace H := H.1 d2
    refine e_ld (pc' := 60) i171_59 rfl rfl ?_
    refine e_rt i171_60 rfl ?_
    exact H
  · have d3 : ¬ (144 ≤ l2) := (of_decide_eq_false c1)
    replace H := H.2 d3
    refine e_ld (pc' := 12) i171_11 rfl rfl ?_
    refine e_ld (pc' := 13) i171_12 rfl rfl ?_
    refine e_get (w := .ref 405) (pc' := 16) i171_13 rfl (x_isC (by decide) hw.1 sh397) (x_fvR (by decide +kernel) (hw.2 397 8 405 lk397_8)) ?_
    refine e_ld (pc' := 17) i171_16 rfl rfl ?_
    obtain ⟨k4, e5, g6, H⟩ := H
    refine e_al (n := k4) (w := .int (gI h 405 k4)) (pc' := 18) i171_17 rfl (x_alE (a := 20) (by decide) hw.1 sh405 (by decide) e5 g6 (by decide)) (x_clE e5 g6 (by decide)) rfl ?_
    refine e_cn (pc' := 20) i171_18 rfl ?_
    refine e_ic (pc' := 23) i171_20 rfl (fun c7 => ?_) (fun c7 => ?_)
    · have d8 : ¬ ((gI h 405 k4) = 6) := (of_decide_eq_true c7)
      replace H := H.2 d8
      refine e_cn (pc' := 51) i171_50 rfl ?_
      refine e_ib (z := l1 + 0) (pc' := 52) i171_51 rfl rfl ?_
      refine e_st (ls' := [some (.ref 397), some (.int (l1 + 0)), some (.int l2)]) (pc' := 53) i171_52 rfl rfl rfl ?_
      refine e_inc (z := l2 + 1) (ls' := [some (.ref 397), some (.int (l1 + 0)), some (.int (l2 + 1))]) (pc' := 56) i171_53 rfl rfl rfl rfl ?_
      refine e_go i171_56 ?_
      exact H
    · have d9 : (gI h 405 k4) = 6 := (Decidable.not_not.mp (of_decide_eq_false c7))
      replace H := H.1 d9
      refine e_ld (pc' := 24) i171_23 rfl rfl ?_
      refine e_get (w := .ref 416) (pc' := 27) i171_24 rfl (x_isC (by decide) hw.1 sh397) (x_fvR (by decide +kernel) (hw.2 397 20 416 lk397_20)) ?_
      refine e_cn (pc' := 30) i171_27 rfl ?_
      refine e_ld (pc' := 31) i171_30 rfl rfl ?_
      refine e_ib (z := 144 + l2) (pc' := 32) i171_31 rfl rfl ?_
      obtain ⟨k10, e11, g12, H⟩ := H
      refine e_al (n := k10) (w := .int (gI h 416 k10)) (pc' := 33) i171_32 rfl (x_alE (a := 22) (by decide) hw.1 sh416 (by decide) e11 g12 (by decide)) (x_clE e11 g12 (by decide)) rfl ?_
      refine e_if (pc' := 36) i171_33 rfl (fun c13 => ?_) (fun c13 => ?_)
      · have d14 : (gI h 416 k10) = 0 := (of_decide_eq_true c13)
        replace H := H.1 d14
        refine e_cn (pc' := 51) i171_50 rfl ?_
        refine e_ib (z := l1 + 0) (pc' := 52) i171_51 rfl rfl ?_
        refine e_st (ls' := [some (.ref 397), some (.int (l1 + 0)), some (.int l2)]) (pc' := 53) i171_52 rfl rfl rfl ?_
        refine e_inc (z := l2 + 1) (ls' := [some (.ref 397), some (.int (l1 + 0)), some (.int (l2 + 1))]) (pc' := 56) i171_53 rfl rfl rfl rfl ?_
        refine e_go i171_56 ?_
        exact H
      · have d15 : ¬ ((gI h 416 k10) = 0) := (of_decide_eq_false c13)
        replace H := H.2 d15
        refine e_ld (pc' := 37) i171_36 rfl rfl ?_
        refine e_get (w := .ref 404) (pc' := 40) i171_37 rfl (x_isC (by decide) hw.1 sh397) (x_fvR (by decide +kernel) (hw.2 397 7 404 lk397_7)) ?_
        refine e_ld (pc' := 41) i171_40 rfl rfl ?_
        refine e_get (w := .ref 407) (pc' := 44) i171_41 rfl (x_isC (by decide) hw.1 sh397) (x_fvR (by decide +kernel) (hw.2 397 10 407 lk397_10)) ?_
        refine e_ld (pc' := 45) i171_44 rfl rfl ?_
        refine e_al (n := k4) (w := .int (gI h 407 k4)) (pc' := 46) i171_45 rfl (x_alE (a := 20) (by decide) hw.1 sh407 (by decide) e5 g6 (by decide)) (x_clE e5 g6 (by decide)) rfl ?_
        obtain ⟨k16, e17, g18, H⟩ := H
        refine e_al (n := k16) (w := .int (gI h 404 k16)) (pc' := 47) i171_46 rfl (x_alE (a := 20) (by decide) hw.1 sh404 (by decide) e17 g18 (by decide)) (x_clE e17 g18 (by decide)) rfl ?_
        refine e_go i171_47 ?_
        refine e_ib (z := l1 + (gI h 404 k16)) (pc' := 52) i171_51 rfl rfl ?_
        refine e_st (ls' := [some (.ref 397), some (.int (l1 + (gI h 404 k16))), some (.int l2)]) (pc' := 53) i171_52 rfl rfl rfl ?_
        refine e_inc (z := l2 + 1) (ls' := [some (.ref 397), some (.int (l1 + (gI h 404 k16))), some (.int (l2 + 1))]) (pc' := 56) i171_53 rfl rfl rfl rfl ?_
        refine e_go i171_56 ?_
        exact H
-- FloorTurnModel.goes(I)V
set_option maxHeartbeats 8000000 in
set_option maxRecDepth 100000 in
theorem v172 {L : Nat} {xs : Nat → Int32} {Q : Option Value → Hp → Prop} {h : Hp} {x : Int32} (hw : HW h) 
  (H : ∃ (h1 : Hp), Sp L xs 165 [.ref 397] h none h1 ∧ WP L xs 172 11 [some (.ref 397), some (.int x), some (.int 0), some (.int 0), some (.int 0), none, none, none, none] [] h1 Q) : ∃ r h', Sp L xs 172 [.ref 397, .int x] h r h' ∧ Q r h' := by
  refine sp_ex (ls := [some (.ref 397), some (.int x), none, none, none, none, none, none, none]) rfl ?_
  refine e_ld (pc' := 1) i172_0 rfl rfl ?_
  obtain ⟨h1, s2, H⟩ := H
  have w4q := HW_sp (show x_okm 165 = true by rfl) s2 hw
  have w4 : HW h1 := w4q.1
  refine e_cV (As := [.ref 397]) (rest := []) (pc' := 4) i172_1 rfl rfl rfl rfl (by show (Nat.beq (x_kd 165) 0 && x_is 397 _ (MC 165) 0) = true; rw [show x_kd 165 = 0 by decide +kernel, show MC 165 = 11 by decide +kernel, (x_isC (by decide) hw.1 sh397)]; rfl) s2 ?_
  refine e_cn (pc' := 5) i172_4 rfl ?_
  refine e_st (ls' := [some (.ref 397), some (.int x), some (.int 0), none, none, none, none, none, none]) (pc' := 6) i172_5 rfl rfl rfl ?_
  refine e_cn (pc' := 7) i172_6 rfl ?_
  refine e_st (ls' := [some (.ref 397), some (.int x), some (.int 0), some (.int 0), none, none, none, none, none]) (pc' := 8) i172_7 rfl rfl rfl ?_
  refine e_cn (pc' := 9) i172_8 rfl ?_
  refine e_st (ls' := [some (.ref 397), some (.int x), some (.int 0), some (.int 0), some (.int 0), none, none, none, none]) (pc' := 11) i172_9 rfl rfl rfl ?_
  exact H
set_option maxHeartbeats 8000000 in
set_option maxRecDepth 100000 in
theorem v172_11 {L : Nat} {xs : Nat → Int32} {Q : Option Value → Hp → Prop} {h : Hp} {l1 : Int32} {l2 : Int32} {l3 : Int32} {l4 : Int32} {z5 : Option Value} {z6 : Option Value} {z7 : Option Value} {z8 : Option Value} (hw : HW h) 
  (H : ((144 ≤ l4) → (WP L xs 172 90 [some (.ref 397), some (.int l1), some (.int l2), some (.int l3), some (.int 0), z5, z6, z7, z8] [] h Q)) ∧ (¬ (144 ≤ l4) → (∃ k4 : Nat, l4 = nI k4 ∧ k4 < 144 ∧ ∃ k12 : Nat, ((5 * l4) + 3) = nI k12 ∧ k12 < 720 ∧ ∃ k20 : Nat, ((5 * l4) + 4) = nI k20 ∧ k20 < 720 ∧ WP L xs 172 11 [some (.ref 397), some (.int l1), some (.int l2), some (.int l3), some (.int (l4 + 1)), z5, z6, z7, z8] [] (sI (sI (sI h 436 k4 (b2i (if (gI h 405 k4) = 0 then (false) else (true)))) 435 k12 1) 435 k20 (b2i (if (gI h 405 k4) = 6 then (true) else (false)))) Q))) : WP L xs 172 11 [some (.ref 397), some (.int l1), some (.int l2), some (.int l3), some (.int l4), z5, z6, z7, z8] [] h Q := by
  refine e_ld (pc' := 13) i172_11 rfl rfl ?_
  refine e_cn (pc' := 16) i172_13 rfl ?_
  refine e_ic (pc' := 19) i172_16 rfl (fun c1 => ?_) (fun c1 => ?_)
  · have d2 : 144 ≤ l4 := (of_decide_eq_true c1)
    replace H := H.1 d2
    refine e_cn (pc' := 88) i172_87 rfl ?_
    refine e_st (ls' := [some (.ref 397), some (.int l1), some (.int l2), some (.int l3), some (.int 0), z5, z6, z7, z8]) (pc' := 90) i172_88 rfl rfl rfl ?_
    exact H
  · have d3 : ¬ (144 ≤ l4) := (of_decide_eq_false c1)
    replace H := H.2 d3
    refine e_ld (pc' := 20) i172_19 rfl rfl ?_
    refine e_get (w := .ref 436) (pc' := 23) i172_20 rfl (x_isC (by decide) hw.1 sh397) (x_fvR (by decide +kernel) (hw.2 397 43 436 lk397_43)) ?_
    refine e_ld (pc' := 25) i172_23 rfl rfl ?_
    refine e_ld (pc' := 26) i172_25 rfl rfl ?_
    refine e_get (w := .ref 405) (pc' := 29) i172_26 rfl (x_isC (by decide) hw.1 sh397) (x_fvR (by decide +kernel) (hw.2 397 8 405 lk397_8)) ?_
    refine e_ld (pc' := 31) i172_29 rfl rfl ?_
    obtain ⟨k4, e5, g6, H⟩ := H
    refine e_al (n := k4) (w := .int (gI h 405 k4)) (pc' := 32) i172_31 rfl (x_alE (a := 20) (by decide) hw.1 sh405 (by decide) e5 g6 (by decide)) (x_clE e5 g6 (by decide)) rfl ?_
    refine e_reg (pc' := 40) (ls' := [some (.ref 397), some (.int l1), some (.int l2), some (.int l3), some (.int l4), z5, z6, z7, z8]) (st' := [.int (b2i (if (gI h 405 k4) = 0 then (false) else (true))), .int l4, .ref 436]) (fun kj7 => ?_) ?_
    · skip
      refine e_if (pc' := 35) i172_32 rfl (fun c8 => ?_) (fun c8 => ?_)
      · have d9 : (gI h 405 k4) = 0 := (of_decide_eq_true c8)
        refine e_cn (pc' := 40) i172_39 rfl ?_
        exact (by simp only [if_pos d9] at kj7 ⊢; exact kj7)
      · have d10 : ¬ ((gI h 405 k4) = 0) := (of_decide_eq_false c8)
        refine e_cn (pc' := 36) i172_35 rfl ?_
        refine e_go i172_36 ?_
        exact (by simp only [if_neg d10] at kj7 ⊢; exact kj7)
    refine e_as (n := k4) (h' := sI h 436 k4 (b2i (if (gI h 405 k4) = 0 then (false) else (true)))) (pc' := 41) i172_40 rfl (x_alE (a := 22) (by decide) hw.1 sh436 (by decide) e5 g6 (by decide)) (x_clE e5 g6 (by decide)) (by rw [(show (SH 436).1 = 22 by rw [sh436])]; simp only [x_aput, b2i_01, cond_true]) ?_
    have w12 : HW (sI h 436 k4 (b2i (if (gI h 405 k4) = 0 then (false) else (true)))) := HW_sI hw
    refine e_ld (pc' := 42) i172_41 rfl rfl ?_
    refine e_get (w := .ref 435) (pc' := 45) i172_42 rfl (x_isC (by decide) w12.1 sh397) (x_fvR (by decide +kernel) (w12.2 397 42 435 lk397_42)) ?_
    refine e_cn (pc' := 46) i172_45 rfl ?_
    refine e_ld (pc' := 48) i172_46 rfl rfl ?_
    refine e_ib (z := 5 * l4) (pc' := 49) i172_48 rfl rfl ?_
    refine e_cn (pc' := 50) i172_49 rfl ?_
    refine e_ib (z := (5 * l4) + 3) (pc' := 51) i172_50 rfl rfl ?_
    refine e_cn (pc' := 52) i172_51 rfl ?_
    obtain ⟨k12, e13, g14, H⟩ := H
    refine e_as (n := k12) (h' := sI (sI h 436 k4 (b2i (if (gI h 405 k4) = 0 then (false) else (true)))) 435 k12 1) (pc' := 53) i172_52 rfl (x_alE (a := 20) (by decide) w12.1 sh435 (by decide) e13 g14 (by decide)) (x_clE e13 g14 (by decide)) (by rw [(show (SH 435).1 = 20 by rw [sh435])]; rfl) ?_
    have w17 : HW (sI (sI h 436 k4 (b2i (if (gI h 405 k4) = 0 then (false) else (true)))) 435 k12 1) := HW_sI w12
    refine e_ld (pc' := 54) i172_53 rfl rfl ?_
    refine e_get (w := .ref 435) (pc' := 57) i172_54 rfl (x_isC (by decide) w17.1 sh397) (x_fvR (by decide +kernel) (w17.2 397 42 435 lk397_42)) ?_
    refine e_cn (pc' := 58) i172_57 rfl ?_
    refine e_ld (pc' := 60) i172_58 rfl rfl ?_
    refine e_ib (z := 5 * l4) (pc' := 61) i172_60 rfl rfl ?_
    refine e_cn (pc' := 62) i172_61 rfl ?_
    refine e_ib (z := (5 * l4) + 4) (pc' := 63) i172_62 rfl rfl ?_
    refine e_ld (pc' := 64) i172_63 rfl rfl ?_
    refine e_get (w := .ref 405) (pc' := 67) i172_64 rfl (x_isC (by decide) w17.1 sh397) (x_fvR (by decide +kernel) (w17.2 397 8 405 lk397_8)) ?_
    refine e_ld (pc' := 69) i172_67 rfl rfl ?_
    refine e_al (n := k4) (w := .int (gI h 405 k4)) (pc' := 70) i172_69 rfl (x_alE (a := 20) (by decide) w17.1 sh405 (by decide) e5 g6 (by decide)) (x_clE e5 g6 (by decide)) (congrArg Value.int (Eq.trans (gI_osI (by decide)) (gI_osI (by decide)))) ?_
    refine e_cn (pc' := 72) i172_70 rfl ?_
    refine e_reg (pc' := 80) (ls' := [some (.ref 397), some (.int l1), some (.int l2), some (.int l3), some (.int l4), z5, z6, z7, z8]) (st' := [.int (b2i (if (gI h 405 k4) = 6 then (true) else (false))), .int ((5 * l4) + 4), .ref 435]) (fun kj16 => ?_) ?_
    · skip
      refine e_ic (pc' := 75) i172_72 rfl (fun c17 => ?_) (fun c17 => ?_)
      · have d18 : ¬ ((gI h 405 k4) = 6) := (of_decide_eq_true c17)
        refine e_cn (pc' := 80) i172_79 rfl ?_
        exact (by simp only [if_neg d18] at kj16 ⊢; exact kj16)
      · have d19 : (gI h 405 k4) = 6 := (Decidable.not_not.mp (of_decide_eq_false c17))
        refine e_cn (pc' := 76) i172_75 rfl ?_
        refine e_go i172_76 ?_
        exact (by simp only [if_pos d19] at kj16 ⊢; exact kj16)
    obtain ⟨k20, e21, g22, H⟩ := H
    refine e_as (n := k20) (h' := sI (sI (sI h 436 k4 (b2i (if (gI h 405 k4) = 0 then (false) else (true)))) 435 k12 1) 435 k20 (b2i (if (gI h 405 k4) = 6 then (true) else (false)))) (pc' := 81) i172_80 rfl (x_alE (a := 20) (by decide) w17.1 sh435 (by decide) e21 g22 (by decide)) (x_clE e21 g22 (by decide)) (by rw [(show (SH 435).1 = 20 by rw [sh435])]; rfl) ?_
    have w26 : HW (sI (sI (sI h 436 k4 (b2i (if (gI h 405 k4) = 0 then (false) else (true)))) 435 k12 1) 435 k20 (b2i (if (gI h 405 k4) = 6 then (true) else (false)))) := HW_sI w17
    refine e_inc (z := l4 + 1) (ls' := [some (.ref 397), some (.int l1), some (.int l2), some (.int l3), some (.int (l4 + 1)), z5, z6, z7, z8]) (pc' := 84) i172_81 rfl rfl rfl rfl ?_
    refine e_go i172_84 ?_
    exact H
set_option maxHeartbeats 8000000 in
set_option maxRecDepth 100000 in
theorem v172_90 {L : Nat} {xs : Nat → Int32} {Q : Option Value → Hp → Prop} {h : Hp} {l1 : Int32} {l2 : Int32} {l3 : Int32} {l4 : Int32} {z5 : Option Value} {z6 : Option Value} {z7 : Option Value} {z8 : Option Value} (hw : HW h) 
  (H : ((l1 ≤ l4) → (WP L xs 172 322 [some (.ref 397), some (.int l1), some (.int l2), some (.int l3), some (.int 0), z5, z6, z7, z8] [] h Q)) ∧ (¬ (l1 ≤ l4) → (∃ (h4 : Hp), Sp L xs 162 [.ref 397, .int 1] h none h4 ∧ ∃ (r8 : Int32), Sp L xs 171 [.ref 397] h4 (some (.int r8)) h4 ∧ WP L xs 172 123 [some (.ref 397), some (.int l1), some (.int (if r8 ≤ l2 then (l2) else (r8))), some (.int l3), some (.int l4), some (.int r8), some (.int 0), z7, z8] [] h4 Q))) : WP L xs 172 90 [some (.ref 397), some (.int l1), some (.int l2), some (.int l3), some (.int l4), z5, z6, z7, z8] [] h Q := by
  refine e_ld (pc' := 92) i172_90 rfl rfl ?_
  refine e_ld (pc' := 93) i172_92 rfl rfl ?_
  refine e_ic (pc' := 96) i172_93 rfl (fun c1 => ?_) (fun c1 => ?_)
  · have d2 : l1 ≤ l4 := (of_decide_eq_true c1)
    replace H := H.1 d2
    refine e_cn (pc' := 320) i172_319 rfl ?_
    refine e_st (ls' := [some (.ref 397), some (.int l1), some (.int l2), some (.int l3), some (.int 0), z5, z6, z7, z8]) (pc' := 322) i172_320 rfl rfl rfl ?_
    exact H
  · have d3 : ¬ (l1 ≤ l4) := (of_decide_eq_false c1)
    replace H := H.2 d3
    refine e_ld (pc' := 97) i172_96 rfl rfl ?_
    refine e_cn (pc' := 98) i172_97 rfl ?_
    obtain ⟨h4, s5, H⟩ := H
    have w7q := HW_sp (show x_okm 162 = true by rfl) s5 hw
    have w7 : HW h4 := w7q.1
    refine e_cV (As := [.ref 397, .int 1]) (rest := []) (pc' := 101) i172_98 rfl rfl rfl rfl (by show (Nat.beq (x_kd 162) 0 && x_is 397 _ (MC 162) 0) = true; rw [show x_kd 162 = 0 by decide +kernel, show MC 162 = 11 by decide +kernel, (x_isC (by decide) hw.1 sh397)]; rfl) s5 ?_
    refine e_ld (pc' := 102) i172_101 rfl rfl ?_
    obtain ⟨r8, s7, H⟩ := H
    refine e_cI (w := .int r8) (As := [.ref 397]) (rest := []) (pc' := 105) i172_102 rfl rfl rfl rfl (by show (Nat.beq (x_kd 171) 0 && x_is 397 _ (MC 171) 0) = true; rw [show x_kd 171 = 0 by decide +kernel, show MC 171 = 11 by decide +kernel, (x_isC (by decide) w7.1 sh397)]; rfl) s7 ?_
    refine e_st (ls' := [some (.ref 397), some (.int l1), some (.int l2), some (.int l3), some (.int l4), some (.int r8), z6, z7, z8]) (pc' := 107) i172_105 rfl rfl rfl ?_
    refine e_ld (pc' := 109) i172_107 rfl rfl ?_
    refine e_ld (pc' := 110) i172_109 rfl rfl ?_
    refine e_reg (pc' := 119) (ls' := [some (.ref 397), some (.int l1), some (.int l2), some (.int l3), some (.int l4), some (.int r8), z6, z7, z8]) (st' := [.int (if r8 ≤ l2 then (l2) else (r8))]) (fun kj9 => ?_) ?_
    · skip
      refine e_ic (pc' := 113) i172_110 rfl (fun c10 => ?_) (fun c10 => ?_)
      · have d11 : r8 ≤ l2 := (of_decide_eq_true c10)
        refine e_ld (pc' := 119) i172_118 rfl rfl ?_
        exact (by simp only [if_pos d11] at kj9 ⊢; exact kj9)
      · have d12 : ¬ (r8 ≤ l2) := (of_decide_eq_false c10)
        refine e_ld (pc' := 115) i172_113 rfl rfl ?_
        refine e_go i172_115 ?_
        exact (by simp only [if_neg d12] at kj9 ⊢; exact kj9)
    refine e_st (ls' := [some (.ref 397), some (.int l1), some (.int (if r8 ≤ l2 then (l2) else (r8))), some (.int l3), some (.int l4), some (.int r8), z6, z7, z8]) (pc' := 120) i172_119 rfl rfl rfl ?_
    refine e_cn (pc' := 121) i172_120 rfl ?_
    refine e_st (ls' := [some (.ref 397), some (.int l1), some (.int (if r8 ≤ l2 then (l2) else (r8))), some (.int l3), some (.int l4), some (.int r8), some (.int 0), z7, z8]) (pc' := 123) i172_121 rfl rfl rfl ?_
    exact H
set_option maxHeartbeats 8000000 in
set_option maxRecDepth 100000 in
theorem v172_123 {L : Nat} {xs : Nat → Int32} {Q : Option Value → Hp → Prop} {h : Hp} {l1 : Int32} {l2 : Int32} {l3 : Int32} {l4 : Int32} {z5 : Option Value} {l6 : Int32} {z7 : Option Value} {z8 : Option Value} (hw : HW h)  (z5_z : x_wide (some z5) = false)
  (H : ((144 ≤ l6) → (WP L xs 172 90 [some (.ref 397), some (.int l1), some (.int l2), some (.int l3), some (.int (l4 + 1)), z5, some (.int l6), z7, z8] [] h Q)) ∧ (¬ (144 ≤ l6) → (∃ k4 : Nat, l6 = nI k4 ∧ k4 < 144 ∧ (((gI h 405 k4) = 6) → (∃ k28 : Nat, (144 + l6) = nI k28 ∧ k28 < 432 ∧ (((if (gI h 414 k28) ≤ 0 then (false) else (true)) = true) → (∃ k91 : Nat, ((5 * l6) + 3) = nI k91 ∧ k91 < 720 ∧ ((l3 = 0) → ((((gI h 416 k28) = 0) → (∃ k130 : Nat, (gI h 407 k4) = nI k130 ∧ k130 < 8 ∧ (((gI h 414 k28) ≤ (gI h 399 k130)) → (∃ k135 : Nat, ((5 * l6) + 4) = nI k135 ∧ k135 < 720 ∧ WP L xs 172 123 [some (.ref 397), some (.int l1), some (.int l2), some (.int (b2i (if (gI h 416 k28) = 0 then (false) else (true)))), some (.int l4), z5, some (.int (l6 + 1)), some (.int (144 + l6)), some (.int (b2i (if (gI h 414 k28) ≤ 0 then (false) else (true))))] [] (sI (sI h 435 k91 (gI h 435 k91)) 435 k135 (gI (sI h 435 k91 (gI h 435 k91)) 435 k135)) Q)) ∧ (¬ ((gI h 414 k28) ≤ (gI h 399 k130)) → (∃ k140 : Nat, ((5 * l6) + 4) = nI k140 ∧ k140 < 720 ∧ WP L xs 172 123 [some (.ref 397), some (.int l1), some (.int l2), some (.int (b2i (if (gI h 416 k28) = 0 then (false) else (true)))), some (.int l4), z5, some (.int (l6 + 1)), some (.int (144 + l6)), some (.int (b2i (if (gI h 414 k28) ≤ 0 then (false) else (true))))] [] (sI (sI h 435 k91 (gI h 435 k91)) 435 k140 0) Q)))) ∧ (¬ ((gI h 416 k28) = 0) → (∃ k125 : Nat, ((5 * l6) + 4) = nI k125 ∧ k125 < 720 ∧ WP L xs 172 123 [some (.ref 397), some (.int l1), some (.int l2), some (.int (b2i (if (gI h 416 k28) = 0 then (false) else (true)))), some (.int l4), z5, some (.int (l6 + 1)), some (.int (144 + l6)), some (.int (b2i (if (gI h 414 k28) ≤ 0 then (false) else (true))))] [] (sI (sI h 435 k91 (gI h 435 k91)) 435 k125 0) Q)))) ∧ (¬ (l3 = 0) → ((((gI h 416 k28) = 0) → (∃ k104 : Nat, (gI h 407 k4) = nI k104 ∧ k104 < 8 ∧ (((gI h 414 k28) ≤ (gI h 399 k104)) → (∃ k109 : Nat, ((5 * l6) + 4) = nI k109 ∧ k109 < 720 ∧ WP L xs 172 123 [some (.ref 397), some (.int l1), some (.int l2), some (.int 1), some (.int l4), z5, some (.int (l6 + 1)), some (.int (144 + l6)), some (.int (b2i (if (gI h 414 k28) ≤ 0 then (false) else (true))))] [] (sI (sI h 435 k91 (gI h 435 k91)) 435 k109 (gI (sI h 435 k91 (gI h 435 k91)) 435 k109)) Q)) ∧ (¬ ((gI h 414 k28) ≤ (gI h 399 k104)) → (∃ k114 : Nat, ((5 * l6) + 4) = nI k114 ∧ k114 < 720 ∧ WP L xs 172 123 [some (.ref 397), some (.int l1), some (.int l2), some (.int 1), some (.int l4), z5, some (.int (l6 + 1)), some (.int (144 + l6)), some (.int (b2i (if (gI h 414 k28) ≤ 0 then (false) else (true))))] [] (sI (sI h 435 k91 (gI h 435 k91)) 435 k114 0) Q)))) ∧ (¬ ((gI h 416 k28) = 0) → (∃ k99 : Nat, ((5 * l6) + 4) = nI k99 ∧ k99 < 720 ∧ WP L xs 172 123 [some (.ref 397), some (.int l1), some (.int l2), some (.int 1), some (.int l4), z5, some (.int (l6 + 1)), some (.int (144 + l6)), some (.int (b2i (if (gI h 414 k28) ≤ 0 then (false) else (true))))] [] (sI (sI h 435 k91 (gI h 435 k91)) 435 k99 0) Q)))))) ∧ (¬ ((if (gI h 414 k28) ≤ 0 then (false) else (true)) = true) → (∃ k37 : Nat, ((5 * l6) + 3) = nI k37 ∧ k37 < 720 ∧ ((l3 = 0) → ((((gI h 416 k28) = 0) → (∃ k76 : Nat, (gI h 407 k4) = nI k76 ∧ k76 < 8 ∧ (((gI h 414 k28) ≤ (gI h 399 k76)) → (∃ k81 : Nat, ((5 * l6) + 4) = nI k81 ∧ k81 < 720 ∧ WP L xs 172 123 [some (.ref 397), some (.int l1), some (.int l2), some (.int (b2i (if (gI h 416 k28) = 0 then (false) else (true)))), some (.int l4), z5, some (.int (l6 + 1)), some (.int (144 + l6)), some (.int (b2i (if (gI h 414 k28) ≤ 0 then (false) else (true))))] [] (sI (sI h 435 k37 0) 435 k81 (gI (sI h 435 k37 0) 435 k81)) Q)) ∧ (¬ ((gI h 414 k28) ≤ (gI h 399 k76)) → (∃ k86 : Nat, ((5 * l6) + 4) = nI k86 ∧ k86 < 720 ∧ WP L xs 172 123 [some (.ref 397), some (.int l1), some (.int l2), some (.int (b2i (if (gI h 416 k28) = 0 then (false) else (true)))), some (.int l4), z5, some (.int (l6 + 1)), some (.int (144 + l6)), some (.int (b2i (if (gI h 414 k28) ≤ 0 then (false) else (true))))] [] (sI (sI h 435 k37 0) 435 k86 0) Q)))) ∧ (¬ ((gI h 416 k28) = 0) → (∃ k71 : Nat, ((5 * l6) + 4) = nI k71 ∧ k71 < 720 ∧ WP L xs 172 123 [some (.ref 397), some (.int l1), some (.int l2), some (.int (b2i (if (gI h 416 k28) = 0 then (false) else (true)))), some (.int l4), z5, some (.int (l6 + 1)), some (.int (144 + l6)), some (.int (b2i (if (gI h 414 k28) ≤ 0 then (false) else (true))))] [] (sI (sI h 435 k37 0) 435 k71 0) Q)))) ∧ (¬ (l3 = 0) → ((((gI h 416 k28) = 0) → (∃ k50 : Nat, (gI h 407 k4) = nI k50 ∧ k50 < 8 ∧ (((gI h 414 k28) ≤ (gI h 399 k50)) → (∃ k55 : Nat, ((5 * l6) + 4) = nI k55 ∧ k55 < 720 ∧ WP L xs 172 123 [some (.ref 397), some (.int l1), some (.int l2), some (.int 1), some (.int l4), z5, some (.int (l6 + 1)), some (.int (144 + l6)), some (.int (b2i (if (gI h 414 k28) ≤ 0 then (false) else (true))))] [] (sI (sI h 435 k37 0) 435 k55 (gI (sI h 435 k37 0) 435 k55)) Q)) ∧ (¬ ((gI h 414 k28) ≤ (gI h 399 k50)) → (∃ k60 : Nat, ((5 * l6) + 4) = nI k60 ∧ k60 < 720 ∧ WP L xs 172 123 [some (.ref 397), some (.int l1), some (.int l2), some (.int 1), some (.int l4), z5, some (.int (l6 + 1)), some (.int (144 + l6)), some (.int (b2i (if (gI h 414 k28) ≤ 0 then (false) else (true))))] [] (sI (sI h 435 k37 0) 435 k60 0) Q)))) ∧ (¬ ((gI h 416 k28) = 0) → (∃ k45 : Nat, ((5 * l6) + 4) = nI k45 ∧ k45 < 720 ∧ WP L xs 172 123 [some (.ref 397), some (.int l1), some (.int l2), some (.int 1), some (.int l4), z5, some (.int (l6 + 1)), some (.int (144 + l6)), some (.int (b2i (if (gI h 414 k28) ≤ 0 then (false) else (true))))] [] (sI (sI h 435 k37 0) 435 k45 0) Q)))))))) ∧ (¬ ((gI h 405 k4) = 6) → (∃ k9 : Nat, (144 + l6) = nI k9 ∧ k9 < 432 ∧ (((if (gI h 412 k9) = 0 then (false) else (true)) = true) → (∃ k23 : Nat, ((5 * l6) + 3) = nI k23 ∧ k23 < 720 ∧ WP L xs 172 123 [some (.ref 397), some (.int l1), some (.int l2), some (.int l3), some (.int l4), z5, some (.int (l6 + 1)), some (.int (144 + l6)), some (.int (b2i (if (gI h 412 k9) = 0 then (false) else (true))))] [] (sI h 435 k23 (gI h 435 k23)) Q)) ∧ (¬ ((if (gI h 412 k9) = 0 then (false) else (true)) = true) → (∃ k18 : Nat, ((5 * l6) + 3) = nI k18 ∧ k18 < 720 ∧ WP L xs 172 123 [some (.ref 397), some (.int l1), some (.int l2), some (.int l3), some (.int l4), z5, some (.int (l6 + 1)), some (.int (144 + l6)), some (.int (b2i (if (gI h 412 k9) = 0 then (false) else (true))))] [] (sI h 435 k18 0) Q))))))) : WP L xs 172 123 [some (.ref 397), some (.int l1), some (.int l2), some (.int l3), some (.int l4), z5, some (.int l6), z7, z8] [] h Q := by
  refine e_ld (pc' := 125) i172_123 rfl rfl ?_
  refine e_cn (pc' := 128) i172_125 rfl ?_
  refine e_ic (pc' := 131) i172_128 rfl (fun c1 => ?_) (fun c1 => ?_)
  · have d2 : 144 ≤ l6 := (of_decide_eq_true c1)
    replace H := H.1 d2
    refine e_inc (z := l4 + 1) (ls' := [some (.ref 397), some (.int l1), some (.int l2), some (.int l3), some (.int (l4 + 1)), z5, some (.int l6), z7, z8]) (pc' := 316) i172_313 rfl rfl rfl rfl ?_
    refine e_go i172_316 ?_
    exact H
  · have d3 : ¬ (144 ≤ l6) := (of_decide_eq_false c1)
    replace H := H.2 d3
    refine e_cn (pc' := 134) i172_131 rfl ?_
    refine e_ld (pc' := 136) i172_134 rfl rfl ?_
    refine e_ib (z := 144 + l6) (pc' := 137) i172_136 rfl rfl ?_
    refine e_st (ls' := [some (.ref 397), some (.int l1), some (.int l2), some (.int l3), some (.int l4), z5, some (.int l6), some (.int (144 + l6)), z8]) (pc' := 139) i172_137 rfl rfl rfl ?_
    refine e_ld (pc' := 140) i172_139 rfl rfl ?_
    refine e_get (w := .ref 405) (pc' := 143) i172_140 rfl (x_isC (by decide) hw.1 sh397) (x_fvR (by decide +kernel) (hw.2 397 8 405 lk397_8)) ?_
    refine e_ld (pc' := 145) i172_143 rfl rfl ?_
    obtain ⟨k4, e5, g6, H⟩ := H
    refine e_al (n := k4) (w := .int (gI h 405 k4)) (pc' := 146) i172_145 rfl (x_alE (a := 20) (by decide) hw.1 sh405 (by decide) e5 g6 (by decide)) (x_clE e5 g6 (by decide)) rfl ?_
    refine e_cn (pc' := 148) i172_146 rfl ?_
    refine e_ic (pc' := 151) i172_148 rfl (fun c7 => ?_) (fun c7 => ?_)
    · have d8 : ¬ ((gI h 405 k4) = 6) := (of_decide_eq_true c7)
      replace H := H.2 d8
      refine e_ld (pc' := 170) i172_169 rfl rfl ?_
      refine e_get (w := .ref 412) (pc' := 173) i172_170 rfl (x_isC (by decide) hw.1 sh397) (x_fvR (by decide +kernel) (hw.2 397 16 412 lk397_16)) ?_
      refine e_ld (pc' := 175) i172_173 rfl rfl ?_
      obtain ⟨k9, e10, g11, H⟩ := H
      refine e_al (n := k9) (w := .int (gI h 412 k9)) (pc' := 176) i172_175 rfl (x_alE (a := 20) (by decide) hw.1 sh412 (by decide) e10 g11 (by decide)) (x_clE e10 g11 (by decide)) rfl ?_
      refine e_reg (pc' := 184) (ls' := [some (.ref 397), some (.int l1), some (.int l2), some (.int l3), some (.int l4), z5, some (.int l6), some (.int (144 + l6)), z8]) (st' := [.int (b2i (if (gI h 412 k9) = 0 then (false) else (true)))]) (fun kj12 => ?_) ?_
      · skip
        refine e_if (pc' := 179) i172_176 rfl (fun c13 => ?_) (fun c13 => ?_)
        · have d14 : (gI h 412 k9) = 0 := (of_decide_eq_true c13)
          refine e_cn (pc' := 184) i172_183 rfl ?_
          exact (by simp only [if_pos d14] at kj12 ⊢; exact kj12)
        · have d15 : ¬ ((gI h 412 k9) = 0) := (of_decide_eq_false c13)
          refine e_cn (pc' := 180) i172_179 rfl ?_
          refine e_go i172_180 ?_
          exact (by simp only [if_neg d15] at kj12 ⊢; exact kj12)
      refine e_st (ls' := [some (.ref 397), some (.int l1), some (.int l2), some (.int l3), some (.int l4), z5, some (.int l6), some (.int (144 + l6)), some (.int (b2i (if (gI h 412 k9) = 0 then (false) else (true))))]) (pc' := 186) i172_184 rfl rfl rfl ?_
      refine e_ld (pc' := 187) i172_186 rfl rfl ?_
      refine e_get (w := .ref 435) (pc' := 190) i172_187 rfl (x_isC (by decide) hw.1 sh397) (x_fvR (by decide +kernel) (hw.2 397 42 435 lk397_42)) ?_
      refine e_cn (pc' := 191) i172_190 rfl ?_
      refine e_ld (pc' := 193) i172_191 rfl rfl ?_
      refine e_ib (z := 5 * l6) (pc' := 194) i172_193 rfl rfl ?_
      refine e_cn (pc' := 195) i172_194 rfl ?_
      refine e_ib (z := (5 * l6) + 3) (pc' := 196) i172_195 rfl rfl ?_
      refine e_ld (pc' := 198) i172_196 rfl rfl ?_
      refine e_b0 (pc' := 201) i172_198 rfl (fun c16 => ?_) (fun c16 => ?_)
      · have d17 : ¬ ((if (gI h 412 k9) = 0 then (false) else (true)) = true) := (show ¬ (if (gI h 412 k9) = 0 then (false) else (true)) = true by rw [c16]; decide)
        replace H := H.2 d17
        refine e_cn (pc' := 216) i172_215 rfl ?_
        obtain ⟨k18, e19, g20, H⟩ := H
        refine e_as (n := k18) (h' := sI h 435 k18 0) (pc' := 217) i172_216 rfl (x_alE (a := 20) (by decide) hw.1 sh435 (by decide) e19 g20 (by decide)) (x_clE e19 g20 (by decide)) (by rw [(show (SH 435).1 = 20 by rw [sh435])]; rfl) ?_
        have w22 : HW (sI h 435 k18 0) := HW_sI hw
        refine e_ld (pc' := 218) i172_217 rfl rfl ?_
        refine e_get (w := .ref 405) (pc' := 221) i172_218 rfl (x_isC (by decide) w22.1 sh397) (x_fvR (by decide +kernel) (w22.2 397 8 405 lk397_8)) ?_
        refine e_ld (pc' := 223) i172_221 rfl rfl ?_
        refine e_al (n := k4) (w := .int (gI h 405 k4)) (pc' := 224) i172_223 rfl (x_alE (a := 20) (by decide) w22.1 sh405 (by decide) e5 g6 (by decide)) (x_clE e5 g6 (by decide)) (congrArg Value.int (gI_osI (by decide))) ?_
        refine e_cn (pc' := 226) i172_224 rfl ?_
        refine e_icT i172_226 (decide_eq_true d8) ?_
        refine e_inc (z := l6 + 1) (ls' := [some (.ref 397), some (.int l1), some (.int l2), some (.int l3), some (.int l4), z5, some (.int (l6 + 1)), some (.int (144 + l6)), some (.int (b2i (if (gI h 412 k9) = 0 then (false) else (true))))]) (pc' := 310) i172_307 rfl rfl rfl ((x_stz (a := 5) rfl z5_z rfl).trans rfl) ?_
        refine e_go i172_310 ?_
        exact H
      · have d22 : (if (gI h 412 k9) = 0 then (false) else (true)) = true := c16
        replace H := H.1 d22
        refine e_ld (pc' := 202) i172_201 rfl rfl ?_
        refine e_get (w := .ref 435) (pc' := 205) i172_202 rfl (x_isC (by decide) hw.1 sh397) (x_fvR (by decide +kernel) (hw.2 397 42 435 lk397_42)) ?_
        refine e_cn (pc' := 206) i172_205 rfl ?_
        refine e_ld (pc' := 208) i172_206 rfl rfl ?_
        refine e_ib (z := 5 * l6) (pc' := 209) i172_208 rfl rfl ?_
        refine e_cn (pc' := 210) i172_209 rfl ?_
        refine e_ib (z := (5 * l6) + 3) (pc' := 211) i172_210 rfl rfl ?_
        obtain ⟨k23, e24, g25, H⟩ := H
        refine e_al (n := k23) (w := .int (gI h 435 k23)) (pc' := 212) i172_211 rfl (x_alE (a := 20) (by decide) hw.1 sh435 (by decide) e24 g25 (by decide)) (x_clE e24 g25 (by decide)) rfl ?_
        refine e_go i172_212 ?_
        refine e_as (n := k23) (h' := sI h 435 k23 (gI h 435 k23)) (pc' := 217) i172_216 rfl (x_alE (a := 20) (by decide) hw.1 sh435 (by decide) e24 g25 (by decide)) (x_clE e24 g25 (by decide)) (by rw [(show (SH 435).1 = 20 by rw [sh435])]; rfl) ?_
        have w27 : HW (sI h 435 k23 (gI h 435 k23)) := HW_sI hw
        refine e_ld (pc' := 218) i172_217 rfl rfl ?_
        refine e_get (w := .ref 405) (pc' := 221) i172_218 rfl (x_isC (by decide) w27.1 sh397) (x_fvR (by decide +kernel) (w27.2 397 8 405 lk397_8)) ?_
        refine e_ld (pc' := 223) i172_221 rfl rfl ?_
        refine e_al (n := k4) (w := .int (gI h 405 k4)) (pc' := 224) i172_223 rfl (x_alE (a := 20) (by decide) w27.1 sh405 (by decide) e5 g6 (by decide)) (x_clE e5 g6 (by decide)) (congrArg Value.int (gI_osI (by decide))) ?_
        refine e_cn (pc' := 226) i172_224 rfl ?_
        refine e_icT i172_226 (decide_eq_true d8) ?_
        refine e_inc (z := l6 + 1) (ls' := [some (.ref 397), some (.int l1), some (.int l2), some (.int l3), some (.int l4), z5, some (.int (l6 + 1)), some (.int (144 + l6)), some (.int (b2i (if (gI h 412 k9) = 0 then (false) else (true))))]) (pc' := 310) i172_307 rfl rfl rfl ((x_stz (a := 5) rfl z5_z rfl).trans rfl) ?_
        refine e_go i172_310 ?_
        exact H
    · have d27 : (gI h 405 k4) = 6 := (Decidable.not_not.mp (of_decide_eq_false c7))
      replace H := H.1 d27
      refine e_ld (pc' := 152) i172_151 rfl rfl ?_
      refine e_get (w := .ref 414) (pc' := 155) i172_152 rfl (x_isC (by decide) hw.1 sh397) (x_fvR (by decide +kernel) (hw.2 397 18 414 lk397_18)) ?_
      refine e_ld (pc' := 157) i172_155 rfl rfl ?_
      obtain ⟨k28, e29, g30, H⟩ := H
      refine e_al (n := k28) (w := .int (gI h 414 k28)) (pc' := 158) i172_157 rfl (x_alE (a := 20) (by decide) hw.1 sh414 (by decide) e29 g30 (by decide)) (x_clE e29 g30 (by decide)) rfl ?_
      refine e_reg (pc' := 184) (ls' := [some (.ref 397), some (.int l1), some (.int l2), some (.int l3), some (.int l4), z5, some (.int l6), some (.int (144 + l6)), z8]) (st' := [.int (b2i (if (gI h 414 k28) ≤ 0 then (false) else (true)))]) (fun kj31 => ?_) ?_
      · skip
        refine e_if (pc' := 161) i172_158 rfl (fun c32 => ?_) (fun c32 => ?_)
        · have d33 : (gI h 414 k28) ≤ 0 := (of_decide_eq_true c32)
          refine e_cn (pc' := 166) i172_165 rfl ?_
          refine e_go i172_166 ?_
          exact (by simp only [if_pos d33] at kj31 ⊢; exact kj31)
        · have d34 : ¬ ((gI h 414 k28) ≤ 0) := (of_decide_eq_false c32)
          refine e_cn (pc' := 162) i172_161 rfl ?_
          refine e_go i172_162 ?_
          exact (by simp only [if_neg d34] at kj31 ⊢; exact kj31)
      refine e_st (ls' := [some (.ref 397), some (.int l1), some (.int l2), some (.int l3), some (.int l4), z5, some (.int l6), some (.int (144 + l6)), some (.int (b2i (if (gI h 414 k28) ≤ 0 then (false) else (true))))]) (pc' := 186) i172_184 rfl rfl rfl ?_
      refine e_ld (pc' := 187) i172_186 rfl rfl ?_
      refine e_get (w := .ref 435) (pc' := 190) i172_187 rfl (x_isC (by decide) hw.1 sh397) (x_fvR (by decide +kernel) (hw.2 397 42 435 lk397_42)) ?_
      refine e_cn (pc' := 191) i172_190 rfl ?_
      refine e_ld (pc' := 193) i172_191 rfl rfl ?_
      refine e_ib (z := 5 * l6) (pc' := 194) i172_193 rfl rfl ?_
      refine e_cn (pc' := 195) i172_194 rfl ?_
      refine e_ib (z := (5 * l6) + 3) (pc' := 196) i172_195 rfl rfl ?_
      refine e_ld (pc' := 198) i172_196 rfl rfl ?_
      refine e_b0 (pc' := 201) i172_198 rfl (fun c35 => ?_) (fun c35 => ?_)
      · have d36 : ¬ ((if (gI h 414 k28) ≤ 0 then (false) else (true)) = true) := (show ¬ (if (gI h 414 k28) ≤ 0 then (false) else (true)) = true by rw [c35]; decide)
        replace H := H.2 d36
        refine e_cn (pc' := 216) i172_215 rfl ?_
        obtain ⟨k37, e38, g39, H⟩ := H
        refine e_as (n := k37) (h' := sI h 435 k37 0) (pc' := 217) i172_216 rfl (x_alE (a := 20) (by decide) hw.1 sh435 (by decide) e38 g39 (by decide)) (x_clE e38 g39 (by decide)) (by rw [(show (SH 435).1 = 20 by rw [sh435])]; rfl) ?_
        have w41 : HW (sI h 435 k37 0) := HW_sI hw
        refine e_ld (pc' := 218) i172_217 rfl rfl ?_
        refine e_get (w := .ref 405) (pc' := 221) i172_218 rfl (x_isC (by decide) w41.1 sh397) (x_fvR (by decide +kernel) (w41.2 397 8 405 lk397_8)) ?_
        refine e_ld (pc' := 223) i172_221 rfl rfl ?_
        refine e_al (n := k4) (w := .int (gI h 405 k4)) (pc' := 224) i172_223 rfl (x_alE (a := 20) (by decide) w41.1 sh405 (by decide) e5 g6 (by decide)) (x_clE e5 g6 (by decide)) (congrArg Value.int (gI_osI (by decide))) ?_
        refine e_cn (pc' := 226) i172_224 rfl ?_
        refine e_icF (pc' := 229) i172_226 rfl (decide_eq_false (not_not_intro d27)) ?_
        refine e_ld (pc' := 230) i172_229 rfl rfl ?_
        refine e_if (pc' := 233) i172_230 rfl (fun c41 => ?_) (fun c41 => ?_)
        · have d42 : ¬ (l3 = 0) := (of_decide_eq_true c41)
          replace H := H.2 d42
          refine e_cn (pc' := 244) i172_243 rfl ?_
          refine e_go i172_244 ?_
          refine e_st (ls' := [some (.ref 397), some (.int l1), some (.int l2), some (.int 1), some (.int l4), z5, some (.int l6), some (.int (144 + l6)), some (.int (b2i (if (gI h 414 k28) ≤ 0 then (false) else (true))))]) (pc' := 249) i172_248 rfl rfl rfl ?_
          refine e_ld (pc' := 250) i172_249 rfl rfl ?_
          refine e_get (w := .ref 435) (pc' := 253) i172_250 rfl (x_isC (by decide) w41.1 sh397) (x_fvR (by decide +kernel) (w41.2 397 42 435 lk397_42)) ?_
          refine e_cn (pc' := 254) i172_253 rfl ?_
          refine e_ld (pc' := 256) i172_254 rfl rfl ?_
          refine e_ib (z := 5 * l6) (pc' := 257) i172_256 rfl rfl ?_
          refine e_cn (pc' := 258) i172_257 rfl ?_
          refine e_ib (z := (5 * l6) + 4) (pc' := 259) i172_258 rfl rfl ?_
          refine e_ld (pc' := 260) i172_259 rfl rfl ?_
          refine e_get (w := .ref 416) (pc' := 263) i172_260 rfl (x_isC (by decide) w41.1 sh397) (x_fvR (by decide +kernel) (w41.2 397 20 416 lk397_20)) ?_
          refine e_ld (pc' := 265) i172_263 rfl rfl ?_
          refine e_al (n := k28) (w := .int (gI h 416 k28)) (pc' := 266) i172_265 rfl (x_alE (a := 22) (by decide) w41.1 sh416 (by decide) e29 g30 (by decide)) (x_clE e29 g30 (by decide)) (congrArg Value.int (gI_osI (by decide))) ?_
          refine e_if (pc' := 269) i172_266 rfl (fun c43 => ?_) (fun c43 => ?_)
          · have d44 : ¬ ((gI h 416 k28) = 0) := (of_decide_eq_true c43)
            replace H := H.2 d44
            refine e_cn (pc' := 292) i172_291 rfl ?_
            refine e_go i172_292 ?_
            obtain ⟨k45, e46, g47, H⟩ := H
            refine e_as (n := k45) (h' := sI (sI h 435 k37 0) 435 k45 0) (pc' := 307) i172_306 rfl (x_alE (a := 20) (by decide) w41.1 sh435 (by decide) e46 g47 (by decide)) (x_clE e46 g47 (by decide)) (by rw [(show (SH 435).1 = 20 by rw [sh435])]; rfl) ?_
            have w50 : HW (sI (sI h 435 k37 0) 435 k45 0) := HW_sI w41
            refine e_inc (z := l6 + 1) (ls' := [some (.ref 397), some (.int l1), some (.int l2), some (.int 1), some (.int l4), z5, some (.int (l6 + 1)), some (.int (144 + l6)), some (.int (b2i (if (gI h 414 k28) ≤ 0 then (false) else (true))))]) (pc' := 310) i172_307 rfl rfl rfl ((x_stz (a := 5) rfl z5_z rfl).trans rfl) ?_
            refine e_go i172_310 ?_
            exact H
          · have d49 : (gI h 416 k28) = 0 := (Decidable.not_not.mp (of_decide_eq_false c43))
            replace H := H.1 d49
            refine e_ld (pc' := 270) i172_269 rfl rfl ?_
            refine e_get (w := .ref 414) (pc' := 273) i172_270 rfl (x_isC (by decide) w41.1 sh397) (x_fvR (by decide +kernel) (w41.2 397 18 414 lk397_18)) ?_
            refine e_ld (pc' := 275) i172_273 rfl rfl ?_
            refine e_al (n := k28) (w := .int (gI h 414 k28)) (pc' := 276) i172_275 rfl (x_alE (a := 20) (by decide) w41.1 sh414 (by decide) e29 g30 (by decide)) (x_clE e29 g30 (by decide)) (congrArg Value.int (gI_osI (by decide))) ?_
            refine e_ld (pc' := 277) i172_276 rfl rfl ?_
            refine e_get (w := .ref 399) (pc' := 280) i172_277 rfl (x_isC (by decide) w41.1 sh397) (x_fvR (by decide +kernel) (w41.2 397 2 399 lk397_2)) ?_
            refine e_ld (pc' := 281) i172_280 rfl rfl ?_
            refine e_get (w := .ref 407) (pc' := 284) i172_281 rfl (x_isC (by decide) w41.1 sh397) (x_fvR (by decide +kernel) (w41.2 397 10 407 lk397_10)) ?_
            refine e_ld (pc' := 286) i172_284 rfl rfl ?_
            refine e_al (n := k4) (w := .int (gI h 407 k4)) (pc' := 287) i172_286 rfl (x_alE (a := 20) (by decide) w41.1 sh407 (by decide) e5 g6 (by decide)) (x_clE e5 g6 (by decide)) (congrArg Value.int (gI_osI (by decide))) ?_
            obtain ⟨k50, e51, g52, H⟩ := H
            refine e_al (n := k50) (w := .int (gI h 399 k50)) (pc' := 288) i172_287 rfl (x_alE (a := 20) (by decide) w41.1 sh399 (by decide) e51 g52 (by decide)) (x_clE e51 g52 (by decide)) (congrArg Value.int (gI_osI (by decide))) ?_
            refine e_ic (pc' := 291) i172_288 rfl (fun c53 => ?_) (fun c53 => ?_)
            · have d54 : (gI h 414 k28) ≤ (gI h 399 k50) := (of_decide_eq_true c53)
              replace H := H.1 d54
              refine e_ld (pc' := 296) i172_295 rfl rfl ?_
              refine e_get (w := .ref 435) (pc' := 299) i172_296 rfl (x_isC (by decide) w41.1 sh397) (x_fvR (by decide +kernel) (w41.2 397 42 435 lk397_42)) ?_
              refine e_cn (pc' := 300) i172_299 rfl ?_
              refine e_ld (pc' := 302) i172_300 rfl rfl ?_
              refine e_ib (z := 5 * l6) (pc' := 303) i172_302 rfl rfl ?_
              refine e_cn (pc' := 304) i172_303 rfl ?_
              refine e_ib (z := (5 * l6) + 4) (pc' := 305) i172_304 rfl rfl ?_
              obtain ⟨k55, e56, g57, H⟩ := H
              refine e_al (n := k55) (w := .int (gI (sI h 435 k37 0) 435 k55)) (pc' := 306) i172_305 rfl (x_alE (a := 20) (by decide) w41.1 sh435 (by decide) e56 g57 (by decide)) (x_clE e56 g57 (by decide)) rfl ?_
              refine e_as (n := k55) (h' := sI (sI h 435 k37 0) 435 k55 (gI (sI h 435 k37 0) 435 k55)) (pc' := 307) i172_306 rfl (x_alE (a := 20) (by decide) w41.1 sh435 (by decide) e56 g57 (by decide)) (x_clE e56 g57 (by decide)) (by rw [(show (SH 435).1 = 20 by rw [sh435])]; rfl) ?_
              have w60 : HW (sI (sI h 435 k37 0) 435 k55 (gI (sI h 435 k37 0) 435 k55)) := HW_sI w41
              refine e_inc (z := l6 + 1) (ls' := [some (.ref 397), some (.int l1), some (.int l2), some (.int 1), some (.int l4), z5, some (.int (l6 + 1)), some (.int (144 + l6)), some (.int (b2i (if (gI h 414 k28) ≤ 0 then (false) else (true))))]) (pc' := 310) i172_307 rfl rfl rfl ((x_stz (a := 5) rfl z5_z rfl).trans rfl) ?_
              refine e_go i172_310 ?_
              exact H
            · have d59 : ¬ ((gI h 414 k28) ≤ (gI h 399 k50)) := (of_decide_eq_false c53)
              replace H := H.2 d59
              refine e_cn (pc' := 292) i172_291 rfl ?_
              refine e_go i172_292 ?_
              obtain ⟨k60, e61, g62, H⟩ := H
              refine e_as (n := k60) (h' := sI (sI h 435 k37 0) 435 k60 0) (pc' := 307) i172_306 rfl (x_alE (a := 20) (by decide) w41.1 sh435 (by decide) e61 g62 (by decide)) (x_clE e61 g62 (by decide)) (by rw [(show (SH 435).1 = 20 by rw [sh435])]; rfl) ?_
              have w65 : HW (sI (sI h 435 k37 0) 435 k60 0) := HW_sI w41
              refine e_inc (z := l6 + 1) (ls' := [some (.ref 397), some (.int l1), some (.int l2), some (.int 1), some (.int l4), z5, some (.int (l6 + 1)), some (.int (144 + l6)), some (.int (b2i (if (gI h 414 k28) ≤ 0 then (false) else (true))))]) (pc' := 310) i172_307 rfl rfl rfl ((x_stz (a := 5) rfl z5_z rfl).trans rfl) ?_
              refine e_go i172_310 ?_
              exact H
        · have d64 : l3 = 0 := (Decidable.not_not.mp (of_decide_eq_false c41))
          replace H := H.1 d64
          refine e_ld (pc' := 234) i172_233 rfl rfl ?_
          refine e_get (w := .ref 416) (pc' := 237) i172_234 rfl (x_isC (by decide) w41.1 sh397) (x_fvR (by decide +kernel) (w41.2 397 20 416 lk397_20)) ?_
          refine e_ld (pc' := 239) i172_237 rfl rfl ?_
          refine e_al (n := k28) (w := .int (gI h 416 k28)) (pc' := 240) i172_239 rfl (x_alE (a := 22) (by decide) w41.1 sh416 (by decide) e29 g30 (by decide)) (x_clE e29 g30 (by decide)) (congrArg Value.int (gI_osI (by decide))) ?_
          refine e_reg (pc' := 248) (ls' := [some (.ref 397), some (.int l1), some (.int l2), some (.int l3), some (.int l4), z5, some (.int l6), some (.int (144 + l6)), some (.int (b2i (if (gI h 414 k28) ≤ 0 then (false) else (true))))]) (st' := [.int (b2i (if (gI h 416 k28) = 0 then (false) else (true)))]) (fun kj65 => ?_) ?_
          · skip
            refine e_if (pc' := 243) i172_240 rfl (fun c66 => ?_) (fun c66 => ?_)
            · have d67 : (gI h 416 k28) = 0 := (of_decide_eq_true c66)
              refine e_cn (pc' := 248) i172_247 rfl ?_
              exact (by simp only [if_pos d67] at kj65 ⊢; exact kj65)
            · have d68 : ¬ ((gI h 416 k28) = 0) := (of_decide_eq_false c66)
              refine e_cn (pc' := 244) i172_243 rfl ?_
              refine e_go i172_244 ?_
              exact (by simp only [if_neg d68] at kj65 ⊢; exact kj65)
          refine e_st (ls' := [some (.ref 397), some (.int l1), some (.int l2), some (.int (b2i (if (gI h 416 k28) = 0 then (false) else (true)))), some (.int l4), z5, some (.int l6), some (.int (144 + l6)), some (.int (b2i (if (gI h 414 k28) ≤ 0 then (false) else (true))))]) (pc' := 249) i172_248 rfl rfl rfl ?_
          refine e_ld (pc' := 250) i172_249 rfl rfl ?_
          refine e_get (w := .ref 435) (pc' := 253) i172_250 rfl (x_isC (by decide) w41.1 sh397) (x_fvR (by decide +kernel) (w41.2 397 42 435 lk397_42)) ?_
          refine e_cn (pc' := 254) i172_253 rfl ?_
          refine e_ld (pc' := 256) i172_254 rfl rfl ?_
          refine e_ib (z := 5 * l6) (pc' := 257) i172_256 rfl rfl ?_
          refine e_cn (pc' := 258) i172_257 rfl ?_
          refine e_ib (z := (5 * l6) + 4) (pc' := 259) i172_258 rfl rfl ?_
          refine e_ld (pc' := 260) i172_259 rfl rfl ?_
          refine e_get (w := .ref 416) (pc' := 263) i172_260 rfl (x_isC (by decide) w41.1 sh397) (x_fvR (by decide +kernel) (w41.2 397 20 416 lk397_20)) ?_
          refine e_ld (pc' := 265) i172_263 rfl rfl ?_
          refine e_al (n := k28) (w := .int (gI h 416 k28)) (pc' := 266) i172_265 rfl (x_alE (a := 22) (by decide) w41.1 sh416 (by decide) e29 g30 (by decide)) (x_clE e29 g30 (by decide)) (congrArg Value.int (gI_osI (by decide))) ?_
          refine e_if (pc' := 269) i172_266 rfl (fun c69 => ?_) (fun c69 => ?_)
          · have d70 : ¬ ((gI h 416 k28) = 0) := (of_decide_eq_true c69)
            replace H := H.2 d70
            refine e_cn (pc' := 292) i172_291 rfl ?_
            refine e_go i172_292 ?_
            obtain ⟨k71, e72, g73, H⟩ := H
            refine e_as (n := k71) (h' := sI (sI h 435 k37 0) 435 k71 0) (pc' := 307) i172_306 rfl (x_alE (a := 20) (by decide) w41.1 sh435 (by decide) e72 g73 (by decide)) (x_clE e72 g73 (by decide)) (by rw [(show (SH 435).1 = 20 by rw [sh435])]; rfl) ?_
            have w76 : HW (sI (sI h 435 k37 0) 435 k71 0) := HW_sI w41
            refine e_inc (z := l6 + 1) (ls' := [some (.ref 397), some (.int l1), some (.int l2), some (.int (b2i (if (gI h 416 k28) = 0 then (false) else (true)))), some (.int l4), z5, some (.int (l6 + 1)), some (.int (144 + l6)), some (.int (b2i (if (gI h 414 k28) ≤ 0 then (false) else (true))))]) (pc' := 310) i172_307 rfl rfl rfl ((x_stz (a := 5) rfl z5_z rfl).trans rfl) ?_
            refine e_go i172_310 ?_
            exact H
          · have d75 : (gI h 416 k28) = 0 := (Decidable.not_not.mp (of_decide_eq_false c69))
            replace H := H.1 d75
            refine e_ld (pc' := 270) i172_269 rfl rfl ?_
            refine e_get (w := .ref 414) (pc' := 273) i172_270 rfl (x_isC (by decide) w41.1 sh397) (x_fvR (by decide +kernel) (w41.2 397 18 414 lk397_18)) ?_
            refine e_ld (pc' := 275) i172_273 rfl rfl ?_
            refine e_al (n := k28) (w := .int (gI h 414 k28)) (pc' := 276) i172_275 rfl (x_alE (a := 20) (by decide) w41.1 sh414 (by decide) e29 g30 (by decide)) (x_clE e29 g30 (by decide)) (congrArg Value.int (gI_osI (by decide))) ?_
            refine e_ld (pc' := 277) i172_276 rfl rfl ?_
            refine e_get (w := .ref 399) (pc' := 280) i172_277 rfl (x_isC (by decide) w41.1 sh397) (x_fvR (by decide +kernel) (w41.2 397 2 399 lk397_2)) ?_
            refine e_ld (pc' := 281) i172_280 rfl rfl ?_
            refine e_get (w := .ref 407) (pc' := 284) i172_281 rfl (x_isC (by decide) w41.1 sh397) (x_fvR (by decide +kernel) (w41.2 397 10 407 lk397_10)) ?_
            refine e_ld (pc' := 286) i172_284 rfl rfl ?_
            refine e_al (n := k4) (w := .int (gI h 407 k4)) (pc' := 287) i172_286 rfl (x_alE (a := 20) (by decide) w41.1 sh407 (by decide) e5 g6 (by decide)) (x_clE e5 g6 (by decide)) (congrArg Value.int (gI_osI (by decide))) ?_
            obtain ⟨k76, e77, g78, H⟩ := H
            refine e_al (n := k76) (w := .int (gI h 399 k76)) (pc' := 288) i172_287 rfl (x_alE (a := 20) (by decide) w41.1 sh399 (by decide) e77 g78 (by decide)) (x_clE e77 g78 (by decide)) (congrArg Value.int (gI_osI (by decide))) ?_
            refine e_ic (pc' := 291) i172_288 rfl (fun c79 => ?_) (fun c79 => ?_)
            · have d80 : (gI h 414 k28) ≤ (gI h 399 k76) := (of_decide_eq_true c79)
              replace H := H.1 d80
              refine e_ld (pc' := 296) i172_295 rfl rfl ?_
              refine e_get (w := .ref 435) (pc' := 299) i172_296 rfl (x_isC (by decide) w41.1 sh397) (x_fvR (by decide +kernel) (w41.2 397 42 435 lk397_42)) ?_
              refine e_cn (pc' := 300) i172_299 rfl ?_
              refine e_ld (pc' := 302) i172_300 rfl rfl ?_
              refine e_ib (z := 5 * l6) (pc' := 303) i172_302 rfl rfl ?_
              refine e_cn (pc' := 304) i172_303 rfl ?_
              refine e_ib (z := (5 * l6) + 4) (pc' := 305) i172_304 rfl rfl ?_
              obtain ⟨k81, e82, g83, H⟩ := H
              refine e_al (n := k81) (w := .int (gI (sI h 435 k37 0) 435 k81)) (pc' := 306) i172_305 rfl (x_alE (a := 20) (by decide) w41.1 sh435 (by decide) e82 g83 (by decide)) (x_clE e82 g83 (by decide)) rfl ?_
              refine e_as (n := k81) (h' := sI (sI h 435 k37 0) 435 k81 (gI (sI h 435 k37 0) 435 k81)) (pc' := 307) i172_306 rfl (x_alE (a := 20) (by decide) w41.1 sh435 (by decide) e82 g83 (by decide)) (x_clE e82 g83 (by decide)) (by rw [(show (SH 435).1 = 20 by rw [sh435])]; rfl) ?_
              have w86 : HW (sI (sI h 435 k37 0) 435 k81 (gI (sI h 435 k37 0) 435 k81)) := HW_sI w41
              refine e_inc (z := l6 + 1) (ls' := [some (.ref 397), some (.int l1), some (.int l2), some (.int (b2i (if (gI h 416 k28) = 0 then (false) else (true)))), some (.int l4), z5, some (.int (l6 + 1)), some (.int (144 + l6)), some (.int (b2i (if (gI h 414 k28) ≤ 0 then (false) else (true))))]) (pc' := 310) i172_307 rfl rfl rfl ((x_stz (a := 5) rfl z5_z rfl).trans rfl) ?_
              refine e_go i172_310 ?_
              exact H
            · have d85 : ¬ ((gI h 414 k28) ≤ (gI h 399 k76)) := (of_decide_eq_false c79)
              replace H := H.2 d85
              refine e_cn (pc' := 292) i172_291 rfl ?_
              refine e_go i172_292 ?_
              obtain ⟨k86, e87, g88, H⟩ := H
              refine e_as (n := k86) (h' := sI (sI h 435 k37 0) 435 k86 0) (pc' := 307) i172_306 rfl (x_alE (a := 20) (by decide) w41.1 sh435 (by decide) e87 g88 (by decide)) (x_clE e87 g88 (by decide)) (by rw [(show (SH 435).1 = 20 by rw [sh435])]; rfl) ?_
              have w91 : HW (sI (sI h 435 k37 0) 435 k86 0) := HW_sI w41
              refine e_inc (z := l6 + 1) (ls' := [some (.ref 397), some (.int l1), some (.int l2), some (.int (b2i (if (gI h 416 k28) = 0 then (false) else (true)))), some (.int l4), z5, some (.int (l6 + 1)), some (.int (144 + l6)), some (.int (b2i (if (gI h 414 k28) ≤ 0 then (false) else (true))))]) (pc' := 310) i172_307 rfl rfl rfl ((x_stz (a := 5) rfl z5_z rfl).trans rfl) ?_
              refine e_go i172_310 ?_
              exact H
      · have d90 : (if (gI h 414 k28) ≤ 0 then (false) else (true)) = true := c35
        replace H := H.1 d90
        refine e_ld (pc' := 202) i172_201 rfl rfl ?_
        refine e_get (w := .ref 435) (pc' := 205) i172_202 rfl (x_isC (by decide) hw.1 sh397) (x_fvR (by decide +kernel) (hw.2 397 42 435 lk397_42)) ?_
        refine e_cn (pc' := 206) i172_205 rfl ?_
        refine e_ld (pc' := 208) i172_206 rfl rfl ?_
        refine e_ib (z := 5 * l6) (pc' := 209) i172_208 rfl rfl ?_
        refine e_cn (pc' := 210) i172_209 rfl ?_
        refine e_ib (z := (5 * l6) + 3) (pc' := 211) i172_210 rfl rfl ?_
        obtain ⟨k91, e92, g93, H⟩ := H
        refine e_al (n := k91) (w := .int (gI h 435 k91)) (pc' := 212) i172_211 rfl (x_alE (a := 20) (by decide) hw.1 sh435 (by decide) e92 g93 (by decide)) (x_clE e92 g93 (by decide)) rfl ?_
        refine e_go i172_212 ?_
        refine e_as (n := k91) (h' := sI h 435 k91 (gI h 435 k91)) (pc' := 217) i172_216 rfl (x_alE (a := 20) (by decide) hw.1 sh435 (by decide) e92 g93 (by decide)) (x_clE e92 g93 (by decide)) (by rw [(show (SH 435).1 = 20 by rw [sh435])]; rfl) ?_
        have w95 : HW (sI h 435 k91 (gI h 435 k91)) := HW_sI hw
        refine e_ld (pc' := 218) i172_217 rfl rfl ?_
        refine e_get (w := .ref 405) (pc' := 221) i172_218 rfl (x_isC (by decide) w95.1 sh397) (x_fvR (by decide +kernel) (w95.2 397 8 405 lk397_8)) ?_
        refine e_ld (pc' := 223) i172_221 rfl rfl ?_
        refine e_al (n := k4) (w := .int (gI h 405 k4)) (pc' := 224) i172_223 rfl (x_alE (a := 20) (by decide) w95.1 sh405 (by decide) e5 g6 (by decide)) (x_clE e5 g6 (by decide)) (congrArg Value.int (gI_osI (by decide))) ?_
        refine e_cn (pc' := 226) i172_224 rfl ?_
        refine e_icF (pc' := 229) i172_226 rfl (decide_eq_false (not_not_intro d27)) ?_
        refine e_ld (pc' := 230) i172_229 rfl rfl ?_
        refine e_if (pc' := 233) i172_230 rfl (fun c95 => ?_) (fun c95 => ?_)
        · have d96 : ¬ (l3 = 0) := (of_decide_eq_true c95)
          replace H := H.2 d96
          refine e_cn (pc' := 244) i172_243 rfl ?_
          refine e_go i172_244 ?_
          refine e_st (ls' := [some (.ref 397), some (.int l1), some (.int l2), some (.int 1), some (.int l4), z5, some (.int l6), some (.int (144 + l6)), some (.int (b2i (if (gI h 414 k28) ≤ 0 then (false) else (true))))]) (pc' := 249) i172_248 rfl rfl rfl ?_
          refine e_ld (pc' := 250) i172_249 rfl rfl ?_
          refine e_get (w := .ref 435) (pc' := 253) i172_250 rfl (x_isC (by decide) w95.1 sh397) (x_fvR (by decide +kernel) (w95.2 397 42 435 lk397_42)) ?_
          refine e_cn (pc' := 254) i172_253 rfl ?_
          refine e_ld (pc' := 256) i172_254 rfl rfl ?_
          refine e_ib (z := 5 * l6) (pc' := 257) i172_256 rfl rfl ?_
          refine e_cn (pc' := 258) i172_257 rfl ?_
          refine e_ib (z := (5 * l6) + 4) (pc' := 259) i172_258 rfl rfl ?_
          refine e_ld (pc' := 260) i172_259 rfl rfl ?_
          refine e_get (w := .ref 416) (pc' := 263) i172_260 rfl (x_isC (by decide) w95.1 sh397) (x_fvR (by decide +kernel) (w95.2 397 20 416 lk397_20)) ?_
          refine e_ld (pc' := 265) i172_263 rfl rfl ?_
          refine e_al (n := k28) (w := .int (gI h 416 k28)) (pc' := 266) i172_265 rfl (x_alE (a := 22) (by decide) w95.1 sh416 (by decide) e29 g30 (by decide)) (x_clE e29 g30 (by decide)) (congrArg Value.int (gI_osI (by decide))) ?_
          refine e_if (pc' := 269) i172_266 rfl (fun c97 => ?_) (fun c97 => ?_)
          · have d98 : ¬ ((gI h 416 k28) = 0) := (of_decide_eq_true c97)
            replace H := H.2 d98
            refine e_cn (pc' := 292) i172_291 rfl ?_
            refine e_go i172_292 ?_
            obtain ⟨k99, e100, g101, H⟩ := H
            refine e_as (n := k99) (h' := sI (sI h 435 k91 (gI h 435 k91)) 435 k99 0) (pc' := 307) i172_306 rfl (x_alE (a := 20) (by decide) w95.1 sh435 (by decide) e100 g101 (by decide)) (x_clE e100 g101 (by decide)) (by rw [(show (SH 435).1 = 20 by rw [sh435])]; rfl) ?_
            have w104 : HW (sI (sI h 435 k91 (gI h 435 k91)) 435 k99 0) := HW_sI w95
            refine e_inc (z := l6 + 1) (ls' := [some (.ref 397), some (.int l1), some (.int l2), some (.int 1), some (.int l4), z5, some (.int (l6 + 1)), some (.int (144 + l6)), some (.int (b2i (if (gI h 414 k28) ≤ 0 then (false) else (true))))]) (pc' := 310) i172_307 rfl rfl rfl ((x_stz (a := 5) rfl z5_z rfl).trans rfl) ?_
            refine e_go i172_310 ?_
            exact H
          · have d103 : (gI h 416 k28) = 0 := (Decidable.not_not.mp (of_decide_eq_false c97))
            replace H := H.1 d103
            refine e_ld (pc' := 270) i172_269 rfl rfl ?_
            refine e_get (w := .ref 414) (pc' := 273) i172_270 rfl (x_isC (by decide) w95.1 sh397) (x_fvR (by decide +kernel) (w95.2 397 18 414 lk397_18)) ?_
            refine e_ld (pc' := 275) i172_273 rfl rfl ?_
            refine e_al (n := k28) (w := .int (gI h 414 k28)) (pc' := 276) i172_275 rfl (x_alE (a := 20) (by decide) w95.1 sh414 (by decide) e29 g30 (by decide)) (x_clE e29 g30 (by decide)) (congrArg Value.int (gI_osI (by decide))) ?_
            refine e_ld (pc' := 277) i172_276 rfl rfl ?_
            refine e_get (w := .ref 399) (pc' := 280) i172_277 rfl (x_isC (by decide) w95.1 sh397) (x_fvR (by decide +kernel) (w95.2 397 2 399 lk397_2)) ?_
            refine e_ld (pc' := 281) i172_280 rfl rfl ?_
            refine e_get (w := .ref 407) (pc' := 284) i172_281 rfl (x_isC (by decide) w95.1 sh397) (x_fvR (by decide +kernel) (w95.2 397 10 407 lk397_10)) ?_
            refine e_ld (pc' := 286) i172_284 rfl rfl ?_
            refine e_al (n := k4) (w := .int (gI h 407 k4)) (pc' := 287) i172_286 rfl (x_alE (a := 20) (by decide) w95.1 sh407 (by decide) e5 g6 (by decide)) (x_clE e5 g6 (by decide)) (congrArg Value.int (gI_osI (by decide))) ?_
            obtain ⟨k104, e105, g106, H⟩ := H
            refine e_al (n := k104) (w := .int (gI h 399 k104)) (pc' := 288) i172_287 rfl (x_alE (a := 20) (by decide) w95.1 sh399 (by decide) e105 g106 (by decide)) (x_clE e105 g106 (by decide)) (congrArg Value.int (gI_osI (by decide))) ?_
            refine e_ic (pc' := 291) i172_288 rfl (fun c107 => ?_) (fun c107 => ?_)
            · have d108 : (gI h 414 k28) ≤ (gI h 399 k104) := (of_decide_eq_true c107)
              replace H := H.1 d108
              refine e_ld (pc' := 296) i172_295 rfl rfl ?_
              refine e_get (w := .ref 435) (pc' := 299) i172_296 rfl (x_isC (by decide) w95.1 sh397) (x_fvR (by decide +kernel) (w95.2 397 42 435 lk397_42)) ?_
              refine e_cn (pc' := 300) i172_299 rfl ?_
              refine e_ld (pc' := 302) i172_300 rfl rfl ?_
              refine e_ib (z := 5 * l6) (pc' := 303) i172_302 rfl rfl ?_
              refine e_cn (pc' := 304) i172_303 rfl ?_
              refine e_ib (z := (5 * l6) + 4) (pc' := 305) i172_304 rfl rfl ?_
              obtain ⟨k109, e110, g111, H⟩ := H
              refine e_al (n := k109) (w := .int (gI (sI h 435 k91 (gI h 435 k91)) 435 k109)) (pc' := 306) i172_305 rfl (x_alE (a := 20) (by decide) w95.1 sh435 (by decide) e110 g111 (by decide)) (x_clE e110 g111 (by decide)) rfl ?_
              refine e_as (n := k109) (h' := sI (sI h 435 k91 (gI h 435 k91)) 435 k109 (gI (sI h 435 k91 (gI h 435 k91)) 435 k109)) (pc' := 307) i172_306 rfl (x_alE (a := 20) (by decide) w95.1 sh435 (by decide) e110 g111 (by decide)) (x_clE e110 g111 (by decide)) (by rw [(show (SH 435).1 = 20 by rw [sh435])]; rfl) ?_
              have w114 : HW (sI (sI h 435 k91 (gI h 435 k91)) 435 k109 (gI (sI h 435 k91 (gI h 435 k91)) 435 k109)) := HW_sI w95
              refine e_inc (z := l6 + 1) (ls' := [some (.ref 397), some (.int l1), some (.int l2), some (.int 1), some (.int l4), z5, some (.int (l6 + 1)), some (.int (144 + l6)), some (.int (b2i (if (gI h 414 k28) ≤ 0 then (false) else (true))))]) (pc' := 310) i172_307 rfl rfl rfl ((x_stz (a := 5) rfl z5_z rfl).trans rfl) ?_
              refine e_go i172_310 ?_
              exact H
            · have d113 : ¬ ((gI h 414 k28) ≤ (gI h 399 k104)) := (of_decide_eq_false c107)
              replace H := H.2 d113
              refine e_cn (pc' := 292) i172_291 rfl ?_
              refine e_go i172_292 ?_
              obtain ⟨k114, e115, g116, H⟩ := H
              refine e_as (n := k114) (h' := sI (sI h 435 k91 (gI h 435 k91)) 435 k114 0) (pc' := 307) i172_306 rfl (x_alE (a := 20) (by decide) w95.1 sh435 (by decide) e115 g116 (by decide)) (x_clE e115 g116 (by decide)) (by rw [(show (SH 435).1 = 20 by rw [sh435])]; rfl) ?_
              have w119 : HW (sI (sI h 435 k91 (gI h 435 k91)) 435 k114 0) := HW_sI w95
              refine e_inc (z := l6 + 1) (ls' := [some (.ref 397), some (.int l1), some (.int l2), some (.int 1), some (.int l4), z5, some (.int (l6 + 1)), some (.int (144 + l6)), some (.int (b2i (if (gI h 414 k28) ≤ 0 then (false) else (true))))]) (pc' := 310) i172_307 rfl rfl rfl ((x_stz (a := 5) rfl z5_z rfl).trans rfl) ?_
              refine e_go i172_310 ?_
              exact H
        · have d118 : l3 = 0 := (Decidable.not_not.mp (of_decide_eq_false c95))
          replace H := H.1 d118
          refine e_ld (pc' := 234) i172_233 rfl rfl ?_
          refine e_get (w := .ref 416) (pc' := 237) i172_234 rfl (x_isC (by decide) w95.1 sh397) (x_fvR (by decide +kernel) (w95.2 397 20 416 lk397_20)) ?_
          refine e_ld (pc' := 239) i172_237 rfl rfl ?_
          refine e_al (n := k28) (w := .int (gI h 416 k28)) (pc' := 240) i172_239 rfl (x_alE (a := 22) (by decide) w95.1 sh416 (by decide) e29 g30 (by decide)) (x_clE e29 g30 (by decide)) (congrArg Value.int (gI_osI (by decide))) ?_
          refine e_reg (pc' := 248) (ls' := [some (.ref 397), some (.int l1), some (.int l2), some (.int l3), some (.int l4), z5, some (.int l6), some (.int (144 + l6)), some (.int (b2i (if (gI h 414 k28) ≤ 0 then (false) else (true))))]) (st' := [.int (b2i (if (gI h 416 k28) = 0 then (false) else (true)))]) (fun kj119 => ?_) ?_
          · skip
            refine e_if (pc' := 243) i172_240 rfl (fun c120 => ?_) (fun c120 => ?_)
            · have d121 : (gI h 416 k28) = 0 := (of_decide_eq_true c120)
              refine e_cn (pc' := 248) i172_247 rfl ?_
              exact (by simp only [if_pos d121] at kj119 ⊢; exact kj119)
            · have d122 : ¬ ((gI h 416 k28) = 0) := (of_decide_eq_false c120)
              refine e_cn (pc' := 244) i172_243 rfl ?_
              refine e_go i172_244 ?_
              exact (by simp only [if_neg d122] at kj119 ⊢; exact kj119)
          refine e_st (ls' := [some (.ref 397), some (.int l1), some (.int l2), some (.int (b2i (if (gI h 416 k28) = 0 then (false) else (true)))), some (.int l4), z5, some (.int l6), some (.int (144 + l6)), some (.int (b2i (if (gI h 414 k28) ≤ 0 then (false) else (true))))]) (pc' := 249) i172_248 rfl rfl rfl ?_
          refine e_ld (pc' := 250) i172_249 rfl rfl ?_
          refine e_get (w := .ref 435) (pc' := 253) i172_250 rfl (x_isC (by decide) w95.1 sh397) (x_fvR (by decide +kernel) (w95.2 397 42 435 lk397_42)) ?_
          refine e_cn (pc' := 254) i172_253 rfl ?_
          refine e_ld (pc' := 256) i172_254 rfl rfl ?_
          refine e_ib (z := 5 * l6) (pc' := 257) i172_256 rfl rfl ?_
          refine e_cn (pc' := 258) i172_257 rfl ?_
          refine e_ib (z := (5 * l6) + 4) (pc' := 259) i172_258 rfl rfl ?_
          refine e_ld (pc' := 260) i172_259 rfl rfl ?_
          refine e_get (w := .ref 416) (pc' := 263) i172_260 rfl (x_isC (by decide) w95.1 sh397) (x_fvR (by decide +kernel) (w95.2 397 20 416 lk397_20)) ?_
          refine e_ld (pc' := 265) i172_263 rfl rfl ?_
          refine e_al (n := k28) (w := .int (gI h 416 k28)) (pc' := 266) i172_265 rfl (x_alE (a := 22) (by decide) w95.1 sh416 (by decide) e29 g30 (by decide)) (x_clE e29 g30 (by decide)) (congrArg Value.int (gI_osI (by decide))) ?_
          refine e_if (pc' := 269) i172_266 rfl (fun c123 => ?_) (fun c123 => ?_)
          · have d124 : ¬ ((gI h 416 k28) = 0) := (of_decide_eq_true c123)
            replace H := H.2 d124
            refine e_cn (pc' := 292) i172_291 rfl ?_
            refine e_go i172_292 ?_
            obtain ⟨k125, e126, g127, H⟩ := H
            refine e_as (n := k125) (h' := sI (sI h 435 k91 (gI h 435 k91)) 435 k125 0) (pc' := 307) i172_306 rfl (x_alE (a := 20) (by decide) w95.1 sh435 (by decide) e126 g127 (by decide)) (x_clE e126 g127 (by decide)) (by rw [(show (SH 435).1 = 20 by rw [sh435])]; rfl) ?_
            have w130 : HW (sI (sI h 435 k91 (gI h 435 k91)) 435 k125 0) := HW_sI w95
            refine e_inc (z := l6 + 1) (ls' := [some (.ref 397), some (.int l1), some (.int l2), some (.int (b2i (if (gI h 416 k28) = 0 then (false) else (true)))), some (.int l4), z5, some (.int (l6 + 1)), some (.int (144 + l6)), some (.int (b2i (if (gI h 414 k28) ≤ 0 then (false) else (true))))]) (pc' := 310) i172_307 rfl rfl rfl ((x_stz (a := 5) rfl z5_z rfl).trans rfl) ?_
            refine e_go i172_310 ?_
            exact H
          · have d129 : (gI h 416 k28) = 0 := (Decidable.not_not.mp (of_decide_eq_false c123))
            replace H := H.1 d129
            refine e_ld (pc' := 270) i172_269 rfl rfl ?_
            refine e_get (w := .ref 414) (pc' := 273) i172_270 rfl (x_isC (by decide) w95.1 sh397) (x_fvR (by decide +kernel) (w95.2 397 18 414 lk397_18)) ?_
            refine e_ld (pc' := 275) i172_273 rfl rfl ?_
            refine e_al (n := k28) (w := .int (gI h 414 k28)) (pc' := 276) i172_275 rfl (x_alE (a := 20) (by decide) w95.1 sh414 (by decide) e29 g30 (by decide)) (x_clE e29 g30 (by decide)) (congrArg Value.int (gI_osI (by decide))) ?_
            refine e_ld (pc' := 277) i172_276 rfl rfl ?_
            refine e_get (w := .ref 399) (pc' := 280) i172_277 rfl (x_isC (by decide) w95.1 sh397) (x_fvR (by decide +kernel) (w95.2 397 2 399 lk397_2)) ?_
            refine e_ld (pc' := 281) i172_280 rfl rfl ?_
            refine e_get (w := .ref 407) (pc' := 284) i172_281 rfl (x_isC (by decide) w95.1 sh397) (x_fvR (by decide +kernel) (w95.2 397 10 407 lk397_10)) ?_
            refine e_ld (pc' := 286) i172_284 rfl rfl ?_
            refine e_al (n := k4) (w := .int (gI h 407 k4)) (pc' := 287) i172_286 rfl (x_alE (a := 20) (by decide) w95.1 sh407 (by decide) e5 g6 (by decide)) (x_clE e5 g6 (by decide)) (congrArg Value.int (gI_osI (by decide))) ?_
            obtain ⟨k130, e131, g132, H⟩ := H
            refine e_al (n := k130) (w := .int (gI h 399 k130)) (pc' := 288) i172_287 rfl (x_alE (a := 20) (by decide) w95.1 sh399 (by decide) e131 g132 (by decide)) (x_clE e131 g132 (by decide)) (congrArg Value.int (gI_osI (by decide))) ?_
            refine e_ic (pc' := 291) i172_288 rfl (fun c133 => ?_) (fun c133 => ?_)
            · have d134 : (gI h 414 k28) ≤ (gI h 399 k130) := (of_decide_eq_true c133)
              replace H := H.1 d134
              refine e_ld (pc' := 296) i172_295 rfl rfl ?_
              refine e_get (w := .ref 435) (pc' := 299) i172_296 rfl (x_isC (by decide) w95.1 sh397) (x_fvR (by decide +kernel) (w95.2 397 42 435 lk397_42)) ?_
              refine e_cn (pc' := 300) i172_299 rfl ?_
              refine e_ld (pc' := 302) i172_300 rfl rfl ?_
              refine e_ib (z := 5 * l6) (pc' := 303) i172_302 rfl rfl ?_
              refine e_cn (pc' := 304) i172_303 rfl ?_
              refine e_ib (z := (5 * l6) + 4) (pc' := 305) i172_304 rfl rfl ?_
              obtain ⟨k135, e136, g137, H⟩ := H
              refine e_al (n := k135) (w := .int (gI (sI h 435 k91 (gI h 435 k91)) 435 k135)) (pc' := 306) i172_305 rfl (x_alE (a := 20) (by decide) w95.1 sh435 (by decide) e136 g137 (by decide)) (x_clE e136 g137 (by decide)) rfl ?_
              refine e_as (n := k135) (h' := sI (sI h 435 k91 (gI h 435 k91)) 435 k135 (gI (sI h 435 k91 (gI h 435 k91)) 435 k135)) (pc' := 307) i172_306 rfl (x_alE (a := 20) (by decide) w95.1 sh435 (by decide) e136 g137 (by decide)) (x_clE e136 g137 (by decide)) (by rw [(show (SH 435).1 = 20 by rw [sh435])]; rfl) ?_
              have w140 : HW (sI (sI h 435 k91 (gI h 435 k91)) 435 k135 (gI (sI h 435 k91 (gI h 435 k91)) 435 k135)) := HW_sI w95
              refine e_inc (z := l6 + 1) (ls' := [some (.ref 397), some (.int l1), some (.int l2), some (.int (b2i (if (gI h 416 k28) = 0 then (false) else (true)))), some (.int l4), z5, some (.int (l6 + 1)), some (.int (144 + l6)), some (.int (b2i (if (gI h 414 k28) ≤ 0 then (false) else (true))))]) (pc' := 310) i172_307 rfl rfl rfl ((x_stz (a := 5) rfl z5_z rfl).trans rfl) ?_
              refine e_go i172_310 ?_
              exact H
            · have d139 : ¬ ((gI h 414 k28) ≤ (gI h 399 k130)) := (of_decide_eq_false c133)
              replace H := H.2 d139
              refine e_cn (pc' := 292) i172_291 rfl ?_
              refine e_go i172_292 ?_
              obtain ⟨k140, e141, g142, H⟩ := H
              refine e_as (n := k140) (h' := sI (sI h 435 k91 (gI h 435 k91)) 435 k140 0) (pc' := 307) i172_306 rfl (x_alE (a := 20) (by decide) w95.1 sh435 (by decide) e141 g142 (by decide)) (x_clE e141 g142 (by decide)) (by rw [(show (SH 435).1 = 20 by rw [sh435])]; rfl) ?_
              have w145 : HW (sI (sI h 435 k91 (gI h 435 k91)) 435 k140 0) := HW_sI w95
              refine e_inc (z := l6 + 1) (ls' := [some (.ref 397), some (.int l1), some (.int l2), some (.int (b2i (if (gI h 416 k28) = 0 then (false) else (true)))), some (.int l4), z5, some (.int (l6 + 1)), some (.int (144 + l6)), some (.int (b2i (if (gI h 414 k28) ≤ 0 then (false) else (true))))]) (pc' := 310) i172_307 rfl rfl rfl ((x_stz (a := 5) rfl z5_z rfl).trans rfl) ?_
              refine e_go i172_310 ?_
              exact H
set_option maxHeartbeats 8000000 in
set_option maxRecDepth 100000 in
theorem v172_322 {L : Nat} {xs : Nat → Int32} {Q : Option Value → Hp → Prop} {h : Hp} {z1 : Option Value} {l2 : Int32} {l3 : Int32} {l4 : Int32} {z5 : Option Value} {z6 : Option Value} {z7 : Option Value} {z8 : Option Value} (hw : HW h) 
  (H : ((144 ≤ l4) → (Q none (sI (sI (sI h 434 2 (gI h 397 35)) 434 3 l2) 434 4 (b2i (if (gI h 397 36) = 0 then (if l3 = 0 then (true) else (false)) else (false)))))) ∧ (¬ (144 ≤ l4) → (∃ k15 : Nat, l4 = nI k15 ∧ k15 < 144 ∧ ∃ k18 : Nat, (5 * l4) = nI k18 ∧ k18 < 720 ∧ ∃ k22 : Nat, ((5 * l4) + 1) = nI k22 ∧ k22 < 720 ∧ ∃ k26 : Nat, ((5 * l4) + 2) = nI k26 ∧ k26 < 720 ∧ (((gI h 432 k15) ≤ 0) → (∃ k32 : Nat, ((5 * l4) + 3) = nI k32 ∧ k32 < 720 ∧ WP L xs 172 322 [some (.ref 397), z1, some (.int l2), some (.int l3), some (.int (l4 + 1)), z5, z6, z7, z8] [] (sI (sI (sI (sI h 435 k18 (gI h 431 k15)) 435 k22 (gI h 432 k15)) 435 k26 (gI h 433 k15)) 435 k32 (gI (sI (sI (sI h 435 k18 (gI h 431 k15)) 435 k22 (gI h 432 k15)) 435 k26 (gI h 433 k15)) 435 k32)) Q)) ∧ (¬ ((gI h 432 k15) ≤ 0) → (∃ k37 : Nat, ((5 * l4) + 3) = nI k37 ∧ k37 < 720 ∧ WP L xs 172 322 [some (.ref 397), z1, some (.int l2), some (.int l3), some (.int (l4 + 1)), z5, z6, z7, z8] [] (sI (sI (sI (sI h 435 k18 (gI h 431 k15)) 435 k22 (gI h 432 k15)) 435 k26 (gI h 433 k15)) 435 k37 0) Q))))) : WP L xs 172 322 [some (.ref 397), z1, some (.int l2), some (.int l3), some (.int l4), z5, z6, z7, z8] [] h Q := by
  refine e_ld (pc' := 324) i172_322 rfl rfl ?_
  refine e_cn (pc' := 327) i172_324 rfl ?_
  refine e_ic (pc' := 330) i172_327 rfl (fun c1 => ?_) (fun c1 => ?_)
  · have d2 : 144 ≤ l4 := (of_decide_eq_true c1)
    replace H := H.1 d2
    refine e_ld (pc' := 425) i172_424 rfl rfl ?_
    refine e_get (w := .ref 434) (pc' := 428) i172_425 rfl (x_isC (by decide) hw.1 sh397) (x_fvR (by decide +kernel) (hw.2 397 41 434 lk397_41)) ?_
    refine e_cn (pc' := 429) i172_428 rfl ?_
    refine e_ld (pc' := 430) i172_429 rfl rfl ?_
    refine e_get (w := .int (gI h 397 35)) (pc' := 433) i172_430 rfl (x_isC (by decide) hw.1 sh397) rfl ?_
    refine e_as (n := 2) (h' := sI h 434 2 (gI h 397 35)) (pc' := 434) i172_433 rfl (x_alE (a := 20) (by decide) hw.1 sh434 (by decide) (show (2 : Int32) = nI 2 from rfl) (show 2 < 5 by decide) (by decide)) (x_clE (show (2 : Int32) = nI 2 from rfl) (show 2 < 5 by decide) (by decide)) (by rw [(show (SH 434).1 = 20 by rw [sh434])]; rfl) ?_
    have w4 : HW (sI h 434 2 (gI h 397 35)) := HW_sI hw
    refine e_ld (pc' := 435) i172_434 rfl rfl ?_
    refine e_get (w := .ref 434) (pc' := 438) i172_435 rfl (x_isC (by decide) w4.1 sh397) (x_fvR (by decide +kernel) (w4.2 397 41 434 lk397_41)) ?_
    refine e_cn (pc' := 439) i172_438 rfl ?_
    refine e_ld (pc' := 440) i172_439 rfl rfl ?_
    refine e_as (n := 3) (h' := sI (sI h 434 2 (gI h 397 35)) 434 3 l2) (pc' := 441) i172_440 rfl (x_alE (a := 20) (by decide) w4.1 sh434 (by decide) (show (3 : Int32) = nI 3 from rfl) (show 3 < 5 by decide) (by decide)) (x_clE (show (3 : Int32) = nI 3 from rfl) (show 3 < 5 by decide) (by decide)) (by rw [(show (SH 434).1 = 20 by rw [sh434])]; rfl) ?_
    have w6 : HW (sI (sI h 434 2 (gI h 397 35)) 434 3 l2) := HW_sI w4
    refine e_ld (pc' := 442) i172_441 rfl rfl ?_
    refine e_get (w := .ref 434) (pc' := 445) i172_442 rfl (x_isC (by decide) w6.1 sh397) (x_fvR (by decide +kernel) (w6.2 397 41 434 lk397_41)) ?_
    refine e_cn (pc' := 446) i172_445 rfl ?_
    refine e_ld (pc' := 447) i172_446 rfl rfl ?_
    refine e_get (w := .int (gI h 397 36)) (pc' := 450) i172_447 rfl (x_isC (by decide) w6.1 sh397) (congrArg Value.int (Eq.trans (gI_osI (by decide)) (gI_osI (by decide)))) ?_
    refine e_reg (pc' := 462) (ls' := [some (.ref 397), z1, some (.int l2), some (.int l3), some (.int l4), z5, z6, z7, z8]) (st' := [.int (b2i (if (gI h 397 36) = 0 then (if l3 = 0 then (true) else (false)) else (false))), .int 4, .ref 434]) (fun kj5 => ?_) ?_
    · skip
      refine e_if (pc' := 453) i172_450 rfl (fun c6 => ?_) (fun c6 => ?_)
      · have d7 : ¬ ((gI h 397 36) = 0) := (of_decide_eq_true c6)
        refine e_cn (pc' := 458) i172_457 rfl ?_
        refine e_go i172_458 ?_
        exact (by simp only [if_neg d7] at kj5 ⊢; exact kj5)
      · have d8 : (gI h 397 36) = 0 := (Decidable.not_not.mp (of_decide_eq_false c6))
        refine e_ld (pc' := 454) i172_453 rfl rfl ?_
        refine e_reg (pc' := 462) (ls' := [some (.ref 397), z1, some (.int l2), some (.int l3), some (.int l4), z5, z6, z7, z8]) (st' := [.int (b2i (if l3 = 0 then (true) else (false))), .int 4, .ref 434]) (fun kj9 => ?_) ?_
        · skip
          refine e_if (pc' := 457) i172_454 rfl (fun c10 => ?_) (fun c10 => ?_)
          · have d11 : l3 = 0 := (of_decide_eq_true c10)
            refine e_cn (pc' := 462) i172_461 rfl ?_
            exact (by simp only [if_pos d11] at kj9 ⊢; exact kj9)
          · have d12 : ¬ (l3 = 0) := (of_decide_eq_false c10)
            refine e_cn (pc' := 458) i172_457 rfl ?_
            refine e_go i172_458 ?_
            exact (by simp only [if_neg d12] at kj9 ⊢; exact kj9)
        exact (by simp only [if_pos d8] at kj5 ⊢; exact kj5)
    refine e_as (n := 4) (h' := sI (sI (sI h 434 2 (gI h 397 35)) 434 3 l2) 434 4 (b2i (if (gI h 397 36) = 0 then (if l3 = 0 then (true) else (false)) else (false)))) (pc' := 463) i172_462 rfl (x_alE (a := 20) (by decide) w6.1 sh434 (by decide) (show (4 : Int32) = nI 4 from rfl) (show 4 < 5 by decide) (by decide)) (x_clE (show (4 : Int32) = nI 4 from rfl) (show 4 < 5 by decide) (by decide)) (by rw [(show (SH 434).1 = 20 by rw [sh434])]; rfl) ?_
    have w16 : HW (sI (sI (sI h 434 2 (gI h 397 35)) 434 3 l2) 434 4 (b2i (if (gI h 397 36) = 0 then (if l3 = 0 then (true) else (false)) else (false)))) := HW_sI w6
    refine e_rt i172_463 rfl ?_
    exact H
  · have d14 : ¬ (144 ≤ l4) := (of_decide_eq_false c1)
    replace H := H.2 d14
    refine e_ld (pc' := 331) i172_330 rfl rfl ?_
    refine e_get (w := .ref 435) (pc' := 334) i172_331 rfl (x_isC (by decide) hw.1 sh397) (x_fvR (by decide +kernel) (hw.2 397 42 435 lk397_42)) ?_
    refine e_cn (pc' := 335) i172_334 rfl ?_
    refine e_ld (pc' := 337) i172_335 rfl rfl ?_
    refine e_ib (z := 5 * l4) (pc' := 338) i172_337 rfl rfl ?_
    refine e_ld (pc' := 339) i172_338 rfl rfl ?_
    refine e_get (w := .ref 431) (pc' := 342) i172_339 rfl (x_isC (by decide) hw.1 sh397) (x_fvR (by decide +kernel) (hw.2 397 37 431 lk397_37)) ?_
    refine e_ld (pc' := 344) i172_342 rfl rfl ?_
    obtain ⟨k15, e16, g17, H⟩ := H
    refine e_al (n := k15) (w := .int (gI h 431 k15)) (pc' := 345) i172_344 rfl (x_alE (a := 20) (by decide) hw.1 sh431 (by decide) e16 g17 (by decide)) (x_clE e16 g17 (by decide)) rfl ?_
    obtain ⟨k18, e19, g20, H⟩ := H
    refine e_as (n := k18) (h' := sI h 435 k18 (gI h 431 k15)) (pc' := 346) i172_345 rfl (x_alE (a := 20) (by decide) hw.1 sh435 (by decide) e19 g20 (by decide)) (x_clE e19 g20 (by decide)) (by rw [(show (SH 435).1 = 20 by rw [sh435])]; rfl) ?_
    have w22 : HW (sI h 435 k18 (gI h 431 k15)) := HW_sI hw
    refine e_ld (pc' := 347) i172_346 rfl rfl ?_
    refine e_get (w := .ref 435) (pc' := 350) i172_347 rfl (x_isC (by decide) w22.1 sh397) (x_fvR (by decide +kernel) (w22.2 397 42 435 lk397_42)) ?_
    refine e_cn (pc' := 351) i172_350 rfl ?_
    refine e_ld (pc' := 353) i172_351 rfl rfl ?_
    refine e_ib (z := 5 * l4) (pc' := 354) i172_353 rfl rfl ?_
    refine e_cn (pc' := 355) i172_354 rfl ?_
    refine e_ib (z := (5 * l4) + 1) (pc' := 356) i172_355 rfl rfl ?_
    refine e_ld (pc' := 357) i172_356 rfl rfl ?_
    refine e_get (w := .ref 432) (pc' := 360) i172_357 rfl (x_isC (by decide) w22.1 sh397) (x_fvR (by decide +kernel) (w22.2 397 38 432 lk397_38)) ?_
    refine e_ld (pc' := 362) i172_360 rfl rfl ?_
    refine e_al (n := k15) (w := .int (gI h 432 k15)) (pc' := 363) i172_362 rfl (x_alE (a := 20) (by decide) w22.1 sh432 (by decide) e16 g17 (by decide)) (x_clE e16 g17 (by decide)) (congrArg Value.int (gI_osI (by decide))) ?_
    obtain ⟨k22, e23, g24, H⟩ := H
    refine e_as (n := k22) (h' := sI (sI h 435 k18 (gI h 431 k15)) 435 k22 (gI h 432 k15)) (pc' := 364) i172_363 rfl (x_alE (a := 20) (by decide) w22.1 sh435 (by decide) e23 g24 (by decide)) (x_clE e23 g24 (by decide)) (by rw [(show (SH 435).1 = 20 by rw [sh435])]; rfl) ?_
    have w27 : HW (sI (sI h 435 k18 (gI h 431 k15)) 435 k22 (gI h 432 k15)) := HW_sI w22
    refine e_ld (pc' := 365) i172_364 rfl rfl ?_
    refine e_get (w := .ref 435) (pc' := 368) i172_365 rfl (x_isC (by decide) w27.1 sh397) (x_fvR (by decide +kernel) (w27.2 397 42 435 lk397_42)) ?_
    refine e_cn (pc' := 369) i172_368 rfl ?_
    refine e_ld (pc' := 371) i172_369 rfl rfl ?_
    refine e_ib (z := 5 * l4) (pc' := 372) i172_371 rfl rfl ?_
    refine e_cn (pc' := 373) i172_372 rfl ?_
    refine e_ib (z := (5 * l4) + 2) (pc' := 374) i172_373 rfl rfl ?_
    refine e_ld (pc' := 375) i172_374 rfl rfl ?_
    refine e_get (w := .ref 433) (pc' := 378) i172_375 rfl (x_isC (by decide) w27.1 sh397) (x_fvR (by decide +kernel) (w27.2 397 39 433 lk397_39)) ?_
    refine e_ld (pc' := 380) i172_378 rfl rfl ?_
    refine e_al (n := k15) (w := .int (gI h 433 k15)) (pc' := 381) i172_380 rfl (x_alE (a := 20) (by decide) w27.1 sh433 (by decide) e16 g17 (by decide)) (x_clE e16 g17 (by decide)) (congrArg Value.int (Eq.trans (gI_osI (by decide)) (gI_osI (by decide)))) ?_
    obtain ⟨k26, e27, g28, H⟩ := H
    refine e_as (n := k26) (h' := sI (sI (sI h 435 k18 (gI h 431 k15)) 435 k22 (gI h 432 k15)) 435 k26 (gI h 433 k15)) (pc' := 382) i172_381 rfl (x_alE (a := 20) (by decide) w27.1 sh435 (by decide) e27 g28 (by decide)) (x_clE e27 g28 (by decide)) (by rw [(show (SH 435).1 = 20 by rw [sh435])]; rfl) ?_
    have w32 : HW (sI (sI (sI h 435 k18 (gI h 431 k15)) 435 k22 (gI h 432 k15)) 435 k26 (gI h 433 k15)) := HW_sI w27
    refine e_ld (pc' := 383) i172_382 rfl rfl ?_
    refine e_get (w := .ref 435) (pc' := 386) i172_383 rfl (x_isC (by decide) w32.1 sh397) (x_fvR (by decide +kernel) (w32.2 397 42 435 lk397_42)) ?_
    refine e_cn (pc' := 387) i172_386 rfl ?_
    refine e_ld (pc' := 389) i172_387 rfl rfl ?_
    refine e_ib (z := 5 * l4) (pc' := 390) i172_389 rfl rfl ?_
    refine e_cn (pc' := 391) i172_390 rfl ?_
    refine e_ib (z := (5 * l4) + 3) (pc' := 392) i172_391 rfl rfl ?_
    refine e_ld (pc' := 393) i172_392 rfl rfl ?_
    refine e_get (w := .ref 432) (pc' := 396) i172_393 rfl (x_isC (by decide) w32.1 sh397) (x_fvR (by decide +kernel) (w32.2 397 38 432 lk397_38)) ?_
    refine e_ld (pc' := 398) i172_396 rfl rfl ?_
    refine e_al (n := k15) (w := .int (gI h 432 k15)) (pc' := 399) i172_398 rfl (x_alE (a := 20) (by decide) w32.1 sh432 (by decide) e16 g17 (by decide)) (x_clE e16 g17 (by decide)) (congrArg Value.int (Eq.trans (gI_osI (by decide)) (Eq.trans (gI_osI (by decide)) (gI_osI (by decide))))) ?_
    refine e_if (pc' := 402) i172_399 rfl (fun c30 => ?_) (fun c30 => ?_)
    · have d31 : (gI h 432 k15) ≤ 0 := (of_decide_eq_true c30)
      replace H := H.1 d31
      refine e_ld (pc' := 407) i172_406 rfl rfl ?_
      refine e_get (w := .ref 435) (pc' := 410) i172_407 rfl (x_isC (by decide) w32.1 sh397) (x_fvR (by decide +kernel) (w32.2 397 42 435 lk397_42)) ?_
      refine e_cn (pc' := 411) i172_410 rfl ?_
      refine e_ld (pc' := 413) i172_411 rfl rfl ?_
      refine e_ib (z := 5 * l4) (pc' := 414) i172_413 rfl rfl ?_
      refine e_cn (pc' := 415) i172_414 rfl ?_
      refine e_ib (z := (5 * l4) + 3) (pc' := 416) i172_415 rfl rfl ?_
      obtain ⟨k32, e33, g34, H⟩ := H
      refine e_al (n := k32) (w := .int (gI (sI (sI (sI h 435 k18 (gI h 431 k15)) 435 k22 (gI h 432 k15)) 435 k26 (gI h 433 k15)) 435 k32)) (pc' := 417) i172_416 rfl (x_alE (a := 20) (by decide) w32.1 sh435 (by decide) e33 g34 (by decide)) (x_clE e33 g34 (by decide)) rfl ?_
      refine e_as (n := k32) (h' := sI (sI (sI (sI h 435 k18 (gI h 431 k15)) 435 k22 (gI h 432 k15)) 435 k26 (gI h 433 k15)) 435 k32 (gI (sI (sI (sI h 435 k18 (gI h 431 k15)) 435 k22 (gI h 432 k15)) 435 k26 (gI h 433 k15)) 435 k32)) (pc' := 418) i172_417 rfl (x_alE (a := 20) (by decide) w32.1 sh435 (by decide) e33 g34 (by decide)) (x_clE e33 g34 (by decide)) (by rw [(show (SH 435).1 = 20 by rw [sh435])]; rfl) ?_
      have w39 : HW (sI (sI (sI (sI h 435 k18 (gI h 431 k15)) 435 k22 (gI h 432 k15)) 435 k26 (gI h 433 k15)) 435 k32 (gI (sI (sI (sI h 435 k18 (gI h 431 k15)) 435 k22 (gI h 432 k15)) 435 k26 (gI h 433 k15)) 435 k32)) := HW_sI w32
      refine e_inc (z := l4 + 1) (ls' := [some (.ref 397), z1, some (.int l2), some (.int l3), some (.int (l4 + 1)), z5, z6, z7, z8]) (pc' := 421) i172_418 rfl rfl rfl rfl ?_
      refine e_go i172_421 ?_
      exact H
    · have d36 : ¬ ((gI h 432 k15) ≤ 0) := (of_decide_eq_false c30)
      replace H := H.2 d36
      refine e_cn (pc' := 403) i172_402 rfl ?_
      refine e_go i172_403 ?_
      obtain ⟨k37, e38, g39, H⟩ := H
      refine e_as (n := k37) (h' := sI (sI (sI (sI h 435 k18 (gI h 431 k15)) 435 k22 (gI h 432 k15)) 435 k26 (gI h 433 k15)) 435 k37 0) (pc' := 418) i172_417 rfl (x_alE (a := 20) (by decide) w32.1 sh435 (by decide) e38 g39 (by decide)) (x_clE e38 g39 (by decide)) (by rw [(show (SH 435).1 = 20 by rw [sh435])]; rfl) ?_
      have w44 : HW (sI (sI (sI (sI h 435 k18 (gI h 431 k15)) 435 k22 (gI h 432 k15)) 435 k26 (gI h 433 k15)) 435 k37 0) := HW_sI w32
      refine e_inc (z := l4 + 1) (ls' := [some (.ref 397), z1, some (.int l2), some (.int l3), some (.int (l4 + 1)), z5, z6, z7, z8]) (pc' := 421) i172_418 rfl rfl rfl rfl ?_
      refine e_go i172_421 ?_
      exact H
