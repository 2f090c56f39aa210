/-! Conditions of methods (made by wip/whole/vcmake.py). -/
-- FloorTurnModel.rate(IZ)J
set_option maxHeartbeats 8000000 in
set_option maxRecDepth 100000 in
theorem v184 {L : Nat} {xs : Nat → Int32} {Q : Option Value → Hp → Prop} {h : Hp} {x : Int32} {y : Bool} (hw : HW h) 
  (H : (((x_isItem x) = true) → (((y = true) → (∃ k9 : Nat, x = nI k9 ∧ k9 < 21 ∧ Q (some (.long (gL h 438 k9))) h)) ∧ (¬ (y = true) → (∃ k5 : Nat, x = nI k5 ∧ k5 < 21 ∧ Q (some (.long (gL h 437 k5))) h)))) ∧ (¬ ((x_isItem x) = true) → (Q (some (.long (if y = true then (1) else (0)))) h))) : ∃ r h', Sp L xs 184 [.ref 397, .int x, .int (b2i y)] h r h' ∧ Q r h' := by
  refine sp_ex (ls := [some (.ref 397), some (.int x), some (.int (b2i y))]) rfl ?_
  refine e_ld (pc' := 1) i184_0 rfl rfl ?_
  refine e_cI (w := .int (b2i (x_isItem x))) (As := [.int x]) (rest := []) (pc' := 4) i184_1 rfl rfl rfl rfl rfl m126 ?_
  refine e_b1 (pc' := 7) i184_4 rfl (fun c1 => ?_) (fun c1 => ?_)
  · have d2 : (x_isItem x) = true := c1
    replace H := H.1 d2
    refine e_ld (pc' := 20) i184_19 rfl rfl ?_
    refine e_b0 (pc' := 23) i184_20 rfl (fun c3 => ?_) (fun c3 => ?_)
    · have d4 : ¬ (y = true) := (show ¬ y = true by rw [c3]; decide)
      replace H := H.2 d4
      refine e_ld (pc' := 33) i184_32 rfl rfl ?_
      refine e_get (w := .ref 437) (pc' := 36) i184_33 rfl (x_isC (by decide) hw.1 sh397) (x_fvR (by decide +kernel) (hw.2 397 44 437 lk397_44)) ?_
      refine e_ld (pc' := 37) i184_36 rfl rfl ?_
      obtain ⟨k5, e6, g7, H⟩ := H
      refine e_al (n := k5) (w := .long (gL h 437 k5)) (pc' := 38) i184_37 rfl (x_alE (a := 21) (by decide) hw.1 sh437 (by decide) e6 g7 (by decide)) (x_clE e6 g7 (by decide)) rfl ?_
      refine e_rt i184_38 rfl ?_
      exact H
    · have d8 : y = true := c3
      replace H := H.1 d8
      refine e_ld (pc' := 24) i184_23 rfl rfl ?_
      refine e_get (w := .ref 438) (pc' := 27) i184_24 rfl (x_isC (by decide) hw.1 sh397) (x_fvR (by decide +kernel) (hw.2 397 45 438 lk397_45)) ?_
      refine e_ld (pc' := 28) i184_27 rfl rfl ?_
      obtain ⟨k9, e10, g11, H⟩ := H
      refine e_al (n := k9) (w := .long (gL h 438 k9)) (pc' := 29) i184_28 rfl (x_alE (a := 21) (by decide) hw.1 sh438 (by decide) e10 g11 (by decide)) (x_clE e10 g11 (by decide)) rfl ?_
      refine e_go i184_29 ?_
      refine e_rt i184_38 rfl ?_
      exact H
  · have d12 : ¬ ((x_isItem x) = true) := (show ¬ (x_isItem x) = true by rw [c1]; decide)
    replace H := H.2 d12
    refine e_ld (pc' := 8) i184_7 rfl rfl ?_
    refine e_reg (pc' := 38) (ls' := [some (.ref 397), some (.int x), some (.int (b2i y))]) (st' := [.long (if y = true then (1) else (0))]) (fun kj13 => ?_) ?_
    · skip
      refine e_b0 (pc' := 11) i184_8 rfl (fun c14 => ?_) (fun c14 => ?_)
      · have d15 : ¬ (y = true) := (show ¬ y = true by rw [c14]; decide)
        refine e_cn (pc' := 16) i184_15 rfl ?_
        refine e_go i184_16 ?_
        exact (by simp only [if_neg d15] at kj13 ⊢; exact kj13)
      · have d16 : y = true := c14
        refine e_cn (pc' := 12) i184_11 rfl ?_
        refine e_go i184_12 ?_
        exact (by simp only [if_pos d16] at kj13 ⊢; exact kj13)
    refine e_rt i184_38 rfl ?_
    exact H
-- FloorTurnModel.findFar(I)V
set_option maxHeartbeats 8000000 in
set_option maxRecDepth 100000 in
theorem v185 {L : Nat} {xs : Nat → Int32} {Q : Option Value → Hp → Prop} {h : Hp} {x : Int32} (hw : HW h) 
  (H : WP L xs 185 2 [some (.ref 397), some (.int x), some (.int 0), none, none] [] h Q) : ∃ r h', Sp L xs 185 [.ref 397, .int x] h r h' ∧ Q r h' := by
  refine sp_ex (ls := [some (.ref 397), some (.int x), none, none, none]) rfl ?_
  refine e_cn (pc' := 1) i185_0 rfl ?_
  refine e_st (ls' := [some (.ref 397), some (.int x), some (.int 0), none, none]) (pc' := 2) i185_1 rfl rfl rfl ?_
  exact H
set_option maxHeartbeats 8000000 in
set_option maxRecDepth 100000 in
theorem v185_2 {L : Nat} {xs : Nat → Int32} {Q : Option Value → Hp → Prop} {h : Hp} {l1 : Int32} {l2 : Int32} {z3 : Option Value} {z4 : Option Value} (hw : HW h) 
  (H : ((144 ≤ l2) → (WP L xs 185 26 [some (.ref 397), some (.int l1), some (.int 0), z3, z4] [] h Q)) ∧ (¬ (144 ≤ l2) → (∃ k4 : Nat, l2 = nI k4 ∧ k4 < 144 ∧ WP L xs 185 2 [some (.ref 397), some (.int l1), some (.int (l2 + 1)), z3, z4] [] (sI h 443 k4 1000) Q))) : WP L xs 185 2 [some (.ref 397), some (.int l1), some (.int l2), z3, z4] [] h Q := by
  refine e_ld (pc' := 3) i185_2 rfl rfl ?_
  refine e_cn (pc' := 6) i185_3 rfl ?_
  refine e_ic (pc' := 9) i185_6 rfl (fun c1 => ?_) (fun c1 => ?_)
  · have d2 : 144 ≤ l2 := (of_decide_eq_true c1)
    replace H := H.1 d2
    refine e_cn (pc' := 25) i185_24 rfl ?_
    refine e_st (ls' := [some (.ref 397), some (.int l1), some (.int 0), z3, z4]) (pc' := 26) i185_25 rfl rfl rfl ?_
    exact H
  · have d3 : ¬ (144 ≤ l2) := (of_decide_eq_false c1)
    replace H := H.2 d3
    refine e_ld (pc' := 10) i185_9 rfl rfl ?_
    refine e_get (w := .ref 443) (pc' := 13) i185_10 rfl (x_isC (by decide) hw.1 sh397) (x_fvR (by decide +kernel) (hw.2 397 50 443 lk397_50)) ?_
    refine e_ld (pc' := 14) i185_13 rfl rfl ?_
    refine e_cn (pc' := 17) i185_14 rfl ?_
    obtain ⟨k4, e5, g6, H⟩ := H
    refine e_as (n := k4) (h' := sI h 443 k4 1000) (pc' := 18) i185_17 rfl (x_alE (a := 20) (by decide) hw.1 sh443 (by decide) e5 g6 (by decide)) (x_clE e5 g6 (by decide)) (by rw [(show (SH 443).1 = 20 by rw [sh443])]; rfl) ?_
    have w8 : HW (sI h 443 k4 1000) := HW_sI hw
    refine e_inc (z := l2 + 1) (ls' := [some (.ref 397), some (.int l1), some (.int (l2 + 1)), z3, z4]) (pc' := 21) i185_18 rfl rfl rfl rfl ?_
    refine e_go i185_21 ?_
    exact H
set_option maxHeartbeats 8000000 in
set_option maxRecDepth 100000 in
theorem v185_26 {L : Nat} {xs : Nat → Int32} {Q : Option Value → Hp → Prop} {h : Hp} {l1 : Int32} {l2 : Int32} {z3 : Option Value} {z4 : Option Value} (hw : HW h) 
  (H : ((4 ≤ l2) → (WP L xs 185 77 [some (.ref 397), some (.int l1), some (.int 1), some (.int 1), z4] [] h Q)) ∧ (¬ (4 ≤ l2) → ((((nxt l1 l2) = (-1)) → (WP L xs 185 26 [some (.ref 397), some (.int l1), some (.int (l2 + 1)), some (.int (nxt l1 l2)), z4] [] h Q)) ∧ (¬ ((nxt l1 l2) = (-1)) → (∃ k7 : Nat, (nxt l1 l2) = nI k7 ∧ k7 < 144 ∧ (((gI h 405 k7) = 0) → (∃ (r14 : Int32), Sp L xs 128 [.ref 397, .int l1, .int l2] h (some (.int r14)) h ∧ ((r14 = 0) → (WP L xs 185 26 [some (.ref 397), some (.int l1), some (.int (l2 + 1)), some (.int (nxt l1 l2)), z4] [] (sI h 443 k7 1) Q)) ∧ (¬ (r14 = 0) → (WP L xs 185 26 [some (.ref 397), some (.int l1), some (.int (l2 + 1)), some (.int (nxt l1 l2)), z4] [] h Q)))) ∧ (¬ ((gI h 405 k7) = 0) → (WP L xs 185 26 [some (.ref 397), some (.int l1), some (.int (l2 + 1)), some (.int (nxt l1 l2)), z4] [] h Q))))))) : WP L xs 185 26 [some (.ref 397), some (.int l1), some (.int l2), z3, z4] [] h Q := by
  refine e_ld (pc' := 27) i185_26 rfl rfl ?_
  refine e_cn (pc' := 28) i185_27 rfl ?_
  refine e_ic (pc' := 31) i185_28 rfl (fun c1 => ?_) (fun c1 => ?_)
  · have d2 : 4 ≤ l2 := (of_decide_eq_true c1)
    replace H := H.1 d2
    refine e_cn (pc' := 74) i185_73 rfl ?_
    refine e_st (ls' := [some (.ref 397), some (.int l1), some (.int 1), z3, z4]) (pc' := 75) i185_74 rfl rfl rfl ?_
    refine e_cn (pc' := 76) i185_75 rfl ?_
    refine e_st (ls' := [some (.ref 397), some (.int l1), some (.int 1), some (.int 1), z4]) (pc' := 77) i185_76 rfl rfl rfl ?_
    exact H
  · have d3 : ¬ (4 ≤ l2) := (of_decide_eq_false c1)
    replace H := H.2 d3
    refine e_ld (pc' := 32) i185_31 rfl rfl ?_
    refine e_ld (pc' := 33) i185_32 rfl rfl ?_
    refine e_cI (w := .int (nxt l1 l2)) (As := [.int l1, .int l2]) (rest := []) (pc' := 36) i185_33 rfl rfl rfl rfl rfl m127 ?_
    refine e_st (ls' := [some (.ref 397), some (.int l1), some (.int l2), some (.int (nxt l1 l2)), z4]) (pc' := 37) i185_36 rfl rfl rfl ?_
    refine e_ld (pc' := 38) i185_37 rfl rfl ?_
    refine e_cn (pc' := 39) i185_38 rfl ?_
    refine e_ic (pc' := 42) i185_39 rfl (fun c4 => ?_) (fun c4 => ?_)
    · have d5 : (nxt l1 l2) = (-1) := (of_decide_eq_true c4)
      replace H := H.1 d5
      refine e_inc (z := l2 + 1) (ls' := [some (.ref 397), some (.int l1), some (.int (l2 + 1)), some (.int (nxt l1 l2)), z4]) (pc' := 70) i185_67 rfl rfl rfl rfl ?_
      refine e_go i185_70 ?_
      exact H
    · have d6 : ¬ ((nxt l1 l2) = (-1)) := (of_decide_eq_false c4)
      replace H := H.2 d6
      refine e_ld (pc' := 43) i185_42 rfl rfl ?_
      refine e_get (w := .ref 405) (pc' := 46) i185_43 rfl (x_isC (by decide) hw.1 sh397) (x_fvR (by decide +kernel) (hw.2 397 8 405 lk397_8)) ?_
      refine e_ld (pc' := 47) i185_46 rfl rfl ?_
      obtain ⟨k7, e8, g9, H⟩ := H
      refine e_al (n := k7) (w := .int (gI h 405 k7)) (pc' := 48) i185_47 rfl (x_alE (a := 20) (by decide) hw.1 sh405 (by decide) e8 g9 (by decide)) (x_clE e8 g9 (by decide)) rfl ?_
      refine e_if (pc' := 51) i185_48 rfl (fun c10 => ?_) (fun c10 => ?_)
      · have d11 : ¬ ((gI h 405 k7) = 0) := (of_decide_eq_true c10)
        replace H := H.2 d11
        refine e_inc (z := l2 + 1) (ls' := [some (.ref 397), some (.int l1), some (.int (l2 + 1)), some (.int (nxt l1 l2)), z4]) (pc' := 70) i185_67 rfl rfl rfl rfl ?_
        refine e_go i185_70 ?_
        exact H
      · have d12 : (gI h 405 k7) = 0 := (Decidable.not_not.mp (of_decide_eq_false c10))
        replace H := H.1 d12
        refine e_ld (pc' := 52) i185_51 rfl rfl ?_
        refine e_ld (pc' := 53) i185_52 rfl rfl ?_
        refine e_ld (pc' := 54) i185_53 rfl rfl ?_
        obtain ⟨r14, s13, H⟩ := H
        refine e_cI (w := .int r14) (As := [.ref 397, .int l1, .int l2]) (rest := []) (pc' := 57) i185_54 rfl rfl rfl rfl (by show (Nat.beq (x_kd 128) 0 && x_is 397 _ (MC 128) 0) = true; rw [show x_kd 128 = 0 by decide +kernel, show MC 128 = 11 by decide +kernel, (x_isC (by decide) hw.1 sh397)]; rfl) s13 ?_
        refine e_if (pc' := 60) i185_57 rfl (fun c15 => ?_) (fun c15 => ?_)
        · have d16 : ¬ (r14 = 0) := (of_decide_eq_true c15)
          replace H := H.2 d16
          refine e_inc (z := l2 + 1) (ls' := [some (.ref 397), some (.int l1), some (.int (l2 + 1)), some (.int (nxt l1 l2)), z4]) (pc' := 70) i185_67 rfl rfl rfl rfl ?_
          refine e_go i185_70 ?_
          exact H
        · have d17 : r14 = 0 := (Decidable.not_not.mp (of_decide_eq_false c15))
          replace H := H.1 d17
          refine e_ld (pc' := 61) i185_60 rfl rfl ?_
          refine e_get (w := .ref 443) (pc' := 64) i185_61 rfl (x_isC (by decide) hw.1 sh397) (x_fvR (by decide +kernel) (hw.2 397 50 443 lk397_50)) ?_
          refine e_ld (pc' := 65) i185_64 rfl rfl ?_
          refine e_cn (pc' := 66) i185_65 rfl ?_
          refine e_as (n := k7) (h' := sI h 443 k7 1) (pc' := 67) i185_66 rfl (x_alE (a := 20) (by decide) hw.1 sh443 (by decide) e8 g9 (by decide)) (x_clE e8 g9 (by decide)) (by rw [(show (SH 443).1 = 20 by rw [sh443])]; rfl) ?_
          have w19 : HW (sI h 443 k7 1) := HW_sI hw
          refine e_inc (z := l2 + 1) (ls' := [some (.ref 397), some (.int l1), some (.int (l2 + 1)), some (.int (nxt l1 l2)), z4]) (pc' := 70) i185_67 rfl rfl rfl rfl ?_
          refine e_go i185_70 ?_
          exact H
set_option maxHeartbeats 8000000 in
set_option maxRecDepth 100000 in
theorem v185_77 {L : Nat} {xs : Nat → Int32} {Q : Option Value → Hp → Prop} {h : Hp} {z1 : Option Value} {l2 : Int32} {l3 : Int32} {z4 : Option Value} (hw : HW h)  (z1_z : x_wide (some z1) = false)
  (H : ((l2 = 0) → (Q none h)) ∧ (¬ (l2 = 0) → (WP L xs 185 86 [some (.ref 397), z1, some (.int 0), some (.int l3), some (.int 0)] [] h Q))) : WP L xs 185 77 [some (.ref 397), z1, some (.int l2), some (.int l3), z4] [] h Q := by
  refine e_ld (pc' := 78) i185_77 rfl rfl ?_
  refine e_if (pc' := 81) i185_78 rfl (fun c1 => ?_) (fun c1 => ?_)
  · have d2 : l2 = 0 := (of_decide_eq_true c1)
    replace H := H.1 d2
    refine e_rt i185_139 rfl ?_
    exact H
  · have d3 : ¬ (l2 = 0) := (of_decide_eq_false c1)
    replace H := H.2 d3
    refine e_cn (pc' := 82) i185_81 rfl ?_
    refine e_st (ls' := [some (.ref 397), z1, some (.int 0), some (.int l3), z4]) (pc' := 83) i185_82 rfl rfl ((x_stz (a := 1) rfl z1_z rfl).trans rfl) ?_
    refine e_cn (pc' := 84) i185_83 rfl ?_
    refine e_st (ls' := [some (.ref 397), z1, some (.int 0), some (.int l3), some (.int 0)]) (pc' := 86) i185_84 rfl rfl rfl ?_
    exact H
set_option maxHeartbeats 8000000 in
set_option maxRecDepth 100000 in
theorem v185_86 {L : Nat} {xs : Nat → Int32} {Q : Option Value → Hp → Prop} {h : Hp} {z1 : Option Value} {l2 : Int32} {l3 : Int32} {l4 : Int32} (hw : HW h)  (z1_z : x_wide (some z1) = false)
  (H : ((144 ≤ l4) → (WP L xs 185 77 [some (.ref 397), z1, some (.int l2), some (.int (l3 + 1)), some (.int l4)] [] h Q)) ∧ (¬ (144 ≤ l4) → (∃ k4 : Nat, l4 = nI k4 ∧ k4 < 144 ∧ (((gI h 443 k4) = l3) → (∃ (r12 : Int32) (h10 : Hp), Sp L xs 186 [.ref 397, .int l4, .int (l3 + 1)] h (some (.int r12)) h10 ∧ WP L xs 185 86 [some (.ref 397), z1, some (.int (b2i (if r12 = 0 then (if l2 = 0 then (false) else (true)) else (true)))), some (.int l3), some (.int (l4 + 1))] [] h10 Q)) ∧ (¬ ((gI h 443 k4) = l3) → (WP L xs 185 86 [some (.ref 397), z1, some (.int l2), some (.int l3), some (.int (l4 + 1))] [] h Q))))) : WP L xs 185 86 [some (.ref 397), z1, some (.int l2), some (.int l3), some (.int l4)] [] h Q := by
  refine e_ld (pc' := 88) i185_86 rfl rfl ?_
  refine e_cn (pc' := 91) i185_88 rfl ?_
  refine e_ic (pc' := 94) i185_91 rfl (fun c1 => ?_) (fun c1 => ?_)
  · have d2 : 144 ≤ l4 := (of_decide_eq_true c1)
    replace H := H.1 d2
    refine e_inc (z := l3 + 1) (ls' := [some (.ref 397), z1, some (.int l2), some (.int (l3 + 1)), some (.int l4)]) (pc' := 136) i185_133 rfl rfl rfl rfl ?_
    refine e_go i185_136 ?_
    exact H
  · have d3 : ¬ (144 ≤ l4) := (of_decide_eq_false c1)
    replace H := H.2 d3
    refine e_ld (pc' := 95) i185_94 rfl rfl ?_
    refine e_get (w := .ref 443) (pc' := 98) i185_95 rfl (x_isC (by decide) hw.1 sh397) (x_fvR (by decide +kernel) (hw.2 397 50 443 lk397_50)) ?_
    refine e_ld (pc' := 100) i185_98 rfl rfl ?_
    obtain ⟨k4, e5, g6, H⟩ := H
    refine e_al (n := k4) (w := .int (gI h 443 k4)) (pc' := 101) i185_100 rfl (x_alE (a := 20) (by decide) hw.1 sh443 (by decide) e5 g6 (by decide)) (x_clE e5 g6 (by decide)) rfl ?_
    refine e_ld (pc' := 102) i185_101 rfl rfl ?_
    refine e_ic (pc' := 105) i185_102 rfl (fun c7 => ?_) (fun c7 => ?_)
    · have d8 : ¬ ((gI h 443 k4) = l3) := (of_decide_eq_true c7)
      replace H := H.2 d8
      refine e_inc (z := l4 + 1) (ls' := [some (.ref 397), z1, some (.int l2), some (.int l3), some (.int (l4 + 1))]) (pc' := 130) i185_127 rfl rfl rfl rfl ?_
      refine e_go i185_130 ?_
      exact H
    · have d9 : (gI h 443 k4) = l3 := (Decidable.not_not.mp (of_decide_eq_false c7))
      replace H := H.1 d9
      refine e_ld (pc' := 106) i185_105 rfl rfl ?_
      refine e_ld (pc' := 108) i185_106 rfl rfl ?_
      refine e_ld (pc' := 109) i185_108 rfl rfl ?_
      refine e_cn (pc' := 110) i185_109 rfl ?_
      refine e_ib (z := l3 + 1) (pc' := 111) i185_110 rfl rfl ?_
      obtain ⟨r12, h10, s11, H⟩ := H
      have w14q := HW_sp (show x_okm 186 = true by rfl) s11 hw
      have w14 : HW h10 := w14q.1
      refine e_cI (w := .int r12) (As := [.ref 397, .int l4, .int (l3 + 1)]) (rest := []) (pc' := 114) i185_111 rfl rfl rfl rfl (by show (Nat.beq (x_kd 186) 0 && x_is 397 _ (MC 186) 0) = true; rw [show x_kd 186 = 0 by decide +kernel, show MC 186 = 11 by decide +kernel, (x_isC (by decide) hw.1 sh397)]; rfl) s11 ?_
      refine e_reg (pc' := 126) (ls' := [some (.ref 397), z1, some (.int l2), some (.int l3), some (.int l4)]) (st' := [.int (b2i (if r12 = 0 then (if l2 = 0 then (false) else (true)) else (true)))]) (fun kj14 => ?_) ?_
      · skip
        refine e_if (pc' := 117) i185_114 rfl (fun c15 => ?_) (fun c15 => ?_)
        · have d16 : ¬ (r12 = 0) := (of_decide_eq_true c15)
          refine e_cn (pc' := 122) i185_121 rfl ?_
          refine e_go i185_122 ?_
          exact (by simp only [if_neg d16] at kj14 ⊢; exact kj14)
        · have d17 : r12 = 0 := (Decidable.not_not.mp (of_decide_eq_false c15))
          refine e_ld (pc' := 118) i185_117 rfl rfl ?_
          refine e_reg (pc' := 126) (ls' := [some (.ref 397), z1, some (.int l2), some (.int l3), some (.int l4)]) (st' := [.int (b2i (if l2 = 0 then (false) else (true)))]) (fun kj18 => ?_) ?_
          · skip
            refine e_if (pc' := 121) i185_118 rfl (fun c19 => ?_) (fun c19 => ?_)
            · have d20 : l2 = 0 := (of_decide_eq_true c19)
              refine e_cn (pc' := 126) i185_125 rfl ?_
              exact (by simp only [if_pos d20] at kj18 ⊢; exact kj18)
            · have d21 : ¬ (l2 = 0) := (of_decide_eq_false c19)
              refine e_cn (pc' := 122) i185_121 rfl ?_
              refine e_go i185_122 ?_
              exact (by simp only [if_neg d21] at kj18 ⊢; exact kj18)
          exact (by simp only [if_pos d17] at kj14 ⊢; exact kj14)
      refine e_st (ls' := [some (.ref 397), z1, some (.int (b2i (if r12 = 0 then (if l2 = 0 then (false) else (true)) else (true)))), some (.int l3), some (.int l4)]) (pc' := 127) i185_126 rfl rfl ((x_stz (a := 1) rfl z1_z rfl).trans rfl) ?_
      refine e_inc (z := l4 + 1) (ls' := [some (.ref 397), z1, some (.int (b2i (if r12 = 0 then (if l2 = 0 then (false) else (true)) else (true)))), some (.int l3), some (.int (l4 + 1))]) (pc' := 130) i185_127 rfl rfl rfl rfl ?_
      refine e_go i185_130 ?_
      exact H
-- FloorTurnModel.spreads(II)Z
set_option maxHeartbeats 8000000 in
set_option maxRecDepth 100000 in
theorem v186 {L : Nat} {xs : Nat → Int32} {Q : Option Value → Hp → Prop} {h : Hp} {x : Int32} {y : Int32} (hw : HW h) 
  (H : WP L xs 186 5 [some (.ref 397), some (.int x), some (.int y), some (.int 0), some (.int 0), none] [] h Q) : ∃ r h', Sp L xs 186 [.ref 397, .int x, .int y] h r h' ∧ Q r h' := by
  refine sp_ex (ls := [some (.ref 397), some (.int x), some (.int y), none, none, none]) rfl ?_
  refine e_cn (pc' := 1) i186_0 rfl ?_
  refine e_st (ls' := [some (.ref 397), some (.int x), some (.int y), some (.int 0), none, none]) (pc' := 2) i186_1 rfl rfl rfl ?_
  refine e_cn (pc' := 3) i186_2 rfl ?_
  refine e_st (ls' := [some (.ref 397), some (.int x), some (.int y), some (.int 0), some (.int 0), none]) (pc' := 5) i186_3 rfl rfl rfl ?_
  exact H
set_option maxHeartbeats 8000000 in
set_option maxRecDepth 100000 in
theorem v186_5 {L : Nat} {xs : Nat → Int32} {Q : Option Value → Hp → Prop} {h : Hp} {l1 : Int32} {l2 : Int32} {l3 : Int32} {l4 : Int32} {z5 : Option Value} (hw : HW h) 
  (H : ((4 ≤ l4) → ((x_ok01 l3 = true) ∧ Q (some (.int l3)) h)) ∧ (¬ (4 ≤ l4) → ((((nxt l1 l4) = (-1)) → (WP L xs 186 5 [some (.ref 397), some (.int l1), some (.int l2), some (.int l3), some (.int (l4 + 1)), some (.int (nxt l1 l4))] [] h Q)) ∧ (¬ ((nxt l1 l4) = (-1)) → (∃ k8 : Nat, (nxt l1 l4) = nI k8 ∧ k8 < 144 ∧ (((gI h 405 k8) = 0) → ((((gI h 443 k8) = 1000) → (WP L xs 186 5 [some (.ref 397), some (.int l1), some (.int l2), some (.int 1), some (.int (l4 + 1)), some (.int (nxt l1 l4))] [] (sI h 443 k8 l2) Q)) ∧ (¬ ((gI h 443 k8) = 1000) → (WP L xs 186 5 [some (.ref 397), some (.int l1), some (.int l2), some (.int l3), some (.int (l4 + 1)), some (.int (nxt l1 l4))] [] h Q)))) ∧ (¬ ((gI h 405 k8) = 0) → (WP L xs 186 5 [some (.ref 397), some (.int l1), some (.int l2), some (.int l3), some (.int (l4 + 1)), some (.int (nxt l1 l4))] [] h Q))))))) : WP L xs 186 5 [some (.ref 397), some (.int l1), some (.int l2), some (.int l3), some (.int l4), z5] [] h Q := by
  refine e_ld (pc' := 7) i186_5 rfl rfl ?_
  refine e_cn (pc' := 8) i186_7 rfl ?_
  refine e_ic (pc' := 11) i186_8 rfl (fun c1 => ?_) (fun c1 => ?_)
  · have d2 : 4 ≤ l4 := (of_decide_eq_true c1)
    replace H := H.1 d2
    refine e_ld (pc' := 65) i186_64 rfl rfl ?_
    obtain ⟨g3, H⟩ := H
    refine e_rt (r := some (.int l3)) i186_65 (by simp only [x_rt, show MR 186 = some .boolean by decide +kernel, g3, cond_true]) ?_
    exact H
  · have d4 : ¬ (4 ≤ l4) := (of_decide_eq_false c1)
    replace H := H.2 d4
    refine e_ld (pc' := 12) i186_11 rfl rfl ?_
    refine e_ld (pc' := 14) i186_12 rfl rfl ?_
    refine e_cI (w := .int (nxt l1 l4)) (As := [.int l1, .int l4]) (rest := []) (pc' := 17) i186_14 rfl rfl rfl rfl rfl m127 ?_
    refine e_st (ls' := [some (.ref 397), some (.int l1), some (.int l2), some (.int l3), some (.int l4), some (.int (nxt l1 l4))]) (pc' := 19) i186_17 rfl rfl rfl ?_
    refine e_ld (pc' := 21) i186_19 rfl rfl ?_
    refine e_cn (pc' := 22) i186_21 rfl ?_
    refine e_ic (pc' := 25) i186_22 rfl (fun c5 => ?_) (fun c5 => ?_)
    · have d6 : (nxt l1 l4) = (-1) := (of_decide_eq_true c5)
      replace H := H.1 d6
      refine e_inc (z := l4 + 1) (ls' := [some (.ref 397), some (.int l1), some (.int l2), some (.int l3), some (.int (l4 + 1)), some (.int (nxt l1 l4))]) (pc' := 61) i186_58 rfl rfl rfl rfl ?_
      refine e_go i186_61 ?_
      exact H
    · have d7 : ¬ ((nxt l1 l4) = (-1)) := (of_decide_eq_false c5)
      replace H := H.2 d7
      refine e_ld (pc' := 26) i186_25 rfl rfl ?_
      refine e_get (w := .ref 405) (pc' := 29) i186_26 rfl (x_isC (by decide) hw.1 sh397) (x_fvR (by decide +kernel) (hw.2 397 8 405 lk397_8)) ?_
      refine e_ld (pc' := 31) i186_29 rfl rfl ?_
      obtain ⟨k8, e9, g10, H⟩ := H
      refine e_al (n := k8) (w := .int (gI h 405 k8)) (pc' := 32) i186_31 rfl (x_alE (a := 20) (by decide) hw.1 sh405 (by decide) e9 g10 (by decide)) (x_clE e9 g10 (by decide)) rfl ?_
      refine e_if (pc' := 35) i186_32 rfl (fun c11 => ?_) (fun c11 => ?_)
      · have d12 : ¬ ((gI h 405 k8) = 0) := (of_decide_eq_true c11)
        replace H := H.2 d12
        refine e_inc (z := l4 + 1) (ls' := [some (.ref 397), some (.int l1), some (.int l2), some (.int l3), some (.int (l4 + 1)), some (.int (nxt l1 l4))]) (pc' := 61) i186_58 rfl rfl rfl rfl ?_
        refine e_go i186_61 ?_
        exact H
      · have d13 : (gI h 405 k8) = 0 := (Decidable.not_not.mp (of_decide_eq_false c11))
        replace H := H.1 d13
        refine e_ld (pc' := 36) i186_35 rfl rfl ?_
        refine e_get (w := .ref 443) (pc' := 39) i186_36 rfl (x_isC (by decide) hw.1 sh397) (x_fvR (by decide +kernel) (hw.2 397 50 443 lk397_50)) ?_
        refine e_ld (pc' := 41) i186_39 rfl rfl ?_
        refine e_al (n := k8) (w := .int (gI h 443 k8)) (pc' := 42) i186_41 rfl (x_alE (a := 20) (by decide) hw.1 sh443 (by decide) e9 g10 (by decide)) (x_clE e9 g10 (by decide)) rfl ?_
        refine e_cn (pc' := 45) i186_42 rfl ?_
        refine e_ic (pc' := 48) i186_45 rfl (fun c14 => ?_) (fun c14 => ?_)
        · have d15 : ¬ ((gI h 443 k8) = 1000) := (of_decide_eq_true c14)
          replace H := H.2 d15
          refine e_inc (z := l4 + 1) (ls' := [some (.ref 397), some (.int l1), some (.int l2), some (.int l3), some (.int (l4 + 1)), some (.int (nxt l1 l4))]) (pc' := 61) i186_58 rfl rfl rfl rfl ?_
          refine e_go i186_61 ?_
          exact H
        · have d16 : (gI h 443 k8) = 1000 := (Decidable.not_not.mp (of_decide_eq_false c14))
          replace H := H.1 d16
          refine e_ld (pc' := 49) i186_48 rfl rfl ?_
          refine e_get (w := .ref 443) (pc' := 52) i186_49 rfl (x_isC (by decide) hw.1 sh397) (x_fvR (by decide +kernel) (hw.2 397 50 443 lk397_50)) ?_
          refine e_ld (pc' := 54) i186_52 rfl rfl ?_
          refine e_ld (pc' := 55) i186_54 rfl rfl ?_
          refine e_as (n := k8) (h' := sI h 443 k8 l2) (pc' := 56) i186_55 rfl (x_alE (a := 20) (by decide) hw.1 sh443 (by decide) e9 g10 (by decide)) (x_clE e9 g10 (by decide)) (by rw [(show (SH 443).1 = 20 by rw [sh443])]; rfl) ?_
          have w18 : HW (sI h 443 k8 l2) := HW_sI hw
          refine e_cn (pc' := 57) i186_56 rfl ?_
          refine e_st (ls' := [some (.ref 397), some (.int l1), some (.int l2), some (.int 1), some (.int l4), some (.int (nxt l1 l4))]) (pc' := 58) i186_57 rfl rfl rfl ?_
          refine e_inc (z := l4 + 1) (ls' := [some (.ref 397), some (.int l1), some (.int l2), some (.int 1), some (.int (l4 + 1)), some (.int (nxt l1 l4))]) (pc' := 61) i186_58 rfl rfl rfl rfl ?_
          refine e_go i186_61 ?_
          exact H
-- FloorTurnModel.mayGive(I)Z
set_option maxHeartbeats 8000000 in
set_option maxRecDepth 100000 in
theorem v187 {L : Nat} {xs : Nat → Int32} {Q : Option Value → Hp → Prop} {h : Hp} {x : Int32} (hw : HW h) 
  (H : (((x_isCell x) = true) → (∃ k4 : Nat, x = nI k4 ∧ k4 < 144 ∧ (((gI h 405 k4) = 0) → (Q (some (.int 0)) h)) ∧ (¬ ((gI h 405 k4) = 0) → ((((gI h 405 k4) = 2) → (Q (some (.int 0)) h)) ∧ (¬ ((gI h 405 k4) = 2) → (Q (some (.int (b2i (if (gI h 405 k4) = 7 then (false) else (true))))) h)))))) ∧ (¬ ((x_isCell x) = true) → (Q (some (.int 0)) h))) : ∃ r h', Sp L xs 187 [.ref 397, .int x] h r h' ∧ Q r h' := by
  refine sp_ex (ls := [some (.ref 397), some (.int x)]) rfl ?_
  refine e_ld (pc' := 1) i187_0 rfl rfl ?_
  refine e_cI (w := .int (b2i (x_isCell x))) (As := [.int x]) (rest := []) (pc' := 4) i187_1 rfl rfl rfl rfl rfl m125 ?_
  refine e_b0 (pc' := 7) i187_4 rfl (fun c1 => ?_) (fun c1 => ?_)
  · have d2 : ¬ ((x_isCell x) = true) := (show ¬ (x_isCell x) = true by rw [c1]; decide)
    replace H := H.2 d2
    refine e_cn (pc' := 42) i187_41 rfl ?_
    refine e_rt i187_42 rfl ?_
    exact H
  · have d3 : (x_isCell x) = true := c1
    replace H := H.1 d3
    refine e_ld (pc' := 8) i187_7 rfl rfl ?_
    refine e_get (w := .ref 405) (pc' := 11) i187_8 rfl (x_isC (by decide) hw.1 sh397) (x_fvR (by decide +kernel) (hw.2 397 8 405 lk397_8)) ?_
    refine e_ld (pc' := 12) i187_11 rfl rfl ?_
    obtain ⟨k4, e5, g6, H⟩ := H
    refine e_al (n := k4) (w := .int (gI h 405 k4)) (pc' := 13) i187_12 rfl (x_alE (a := 20) (by decide) hw.1 sh405 (by decide) e5 g6 (by decide)) (x_clE e5 g6 (by decide)) rfl ?_
    refine e_if (pc' := 16) i187_13 rfl (fun c7 => ?_) (fun c7 => ?_)
    · have d8 : (gI h 405 k4) = 0 := (of_decide_eq_true c7)
      replace H := H.1 d8
      refine e_cn (pc' := 42) i187_41 rfl ?_
      refine e_rt i187_42 rfl ?_
      exact H
    · have d9 : ¬ ((gI h 405 k4) = 0) := (of_decide_eq_false c7)
      replace H := H.2 d9
      refine e_ld (pc' := 17) i187_16 rfl rfl ?_
      refine e_get (w := .ref 405) (pc' := 20) i187_17 rfl (x_isC (by decide) hw.1 sh397) (x_fvR (by decide +kernel) (hw.2 397 8 405 lk397_8)) ?_
      refine e_ld (pc' := 21) i187_20 rfl rfl ?_
      refine e_al (n := k4) (w := .int (gI h 405 k4)) (pc' := 22) i187_21 rfl (x_alE (a := 20) (by decide) hw.1 sh405 (by decide) e5 g6 (by decide)) (x_clE e5 g6 (by decide)) rfl ?_
      refine e_cn (pc' := 23) i187_22 rfl ?_
      refine e_ic (pc' := 26) i187_23 rfl (fun c10 => ?_) (fun c10 => ?_)
      · have d11 : (gI h 405 k4) = 2 := (of_decide_eq_true c10)
        replace H := H.1 d11
        refine e_cn (pc' := 42) i187_41 rfl ?_
        refine e_rt i187_42 rfl ?_
        exact H
      · have d12 : ¬ ((gI h 405 k4) = 2) := (of_decide_eq_false c10)
        replace H := H.2 d12
        refine e_ld (pc' := 27) i187_26 rfl rfl ?_
        refine e_get (w := .ref 405) (pc' := 30) i187_27 rfl (x_isC (by decide) hw.1 sh397) (x_fvR (by decide +kernel) (hw.2 397 8 405 lk397_8)) ?_
        refine e_ld (pc' := 31) i187_30 rfl rfl ?_
        refine e_al (n := k4) (w := .int (gI h 405 k4)) (pc' := 32) i187_31 rfl (x_alE (a := 20) (by decide) hw.1 sh405 (by decide) e5 g6 (by decide)) (x_clE e5 g6 (by decide)) rfl ?_
        refine e_cn (pc' := 34) i187_32 rfl ?_
        refine e_reg (pc' := 42) (ls' := [some (.ref 397), some (.int x)]) (st' := [.int (b2i (if (gI h 405 k4) = 7 then (false) else (true)))]) (fun kj13 => ?_) ?_
        · skip
          refine e_ic (pc' := 37) i187_34 rfl (fun c14 => ?_) (fun c14 => ?_)
          · have d15 : (gI h 405 k4) = 7 := (of_decide_eq_true c14)
            refine e_cn (pc' := 42) i187_41 rfl ?_
            exact (by simp only [if_pos d15] at kj13 ⊢; exact kj13)
          · have d16 : ¬ ((gI h 405 k4) = 7) := (of_decide_eq_false c14)
            refine e_cn (pc' := 38) i187_37 rfl ?_
            refine e_go i187_38 ?_
            exact (by simp only [if_neg d16] at kj13 ⊢; exact kj13)
        refine e_rt (r := some (.int (b2i (if (gI h 405 k4) = 7 then (false) else (true))))) i187_42 (by simp only [x_rt, show MR 187 = some .boolean by decide +kernel, b2i_01, cond_true]) ?_
        exact H
-- FloorTurnModel.mayTake(I)Z
set_option maxHeartbeats 8000000 in
set_option maxRecDepth 100000 in
theorem v188 {L : Nat} {xs : Nat → Int32} {Q : Option Value → Hp → Prop} {h : Hp} {x : Int32} (hw : HW h) 
  (H : (((x_isCell x) = true) → (∃ k4 : Nat, x = nI k4 ∧ k4 < 144 ∧ (((gI h 405 k4) = 0) → (Q (some (.int 0)) h)) ∧ (¬ ((gI h 405 k4) = 0) → ((((gI h 405 k4) = 3) → (Q (some (.int 0)) h)) ∧ (¬ ((gI h 405 k4) = 3) → (Q (some (.int (b2i (if (gI h 405 k4) = 5 then (false) else (true))))) h)))))) ∧ (¬ ((x_isCell x) = true) → (Q (some (.int 0)) h))) : ∃ r h', Sp L xs 188 [.ref 397, .int x] h r h' ∧ Q r h' := by
  refine sp_ex (ls := [some (.ref 397), some (.int x)]) rfl ?_
  refine e_ld (pc' := 1) i188_0 rfl rfl ?_
  refine e_cI (w := .int (b2i (x_isCell x))) (As := [.int x]) (rest := []) (pc' := 4) i188_1 rfl rfl rfl rfl rfl m125 ?_
  refine e_b0 (pc' := 7) i188_4 rfl (fun c1 => ?_) (fun c1 => ?_)
  · have d2 : ¬ ((x_isCell x) = true) := (show ¬ (x_isCell x) = true by rw [c1]; decide)
    replace H := H.2 d2
    refine e_cn (pc' := 41) i188_40 rfl ?_
    refine e_rt i188_41 rfl ?_
    exact H
  · have d3 : (x_isCell x) = true := c1
    replace H := H.1 d3
    refine e_ld (pc' := 8) i188_7 rfl rfl ?_
    refine e_get (w := .ref 405) (pc' := 11) i188_8 rfl (x_isC (by decide) hw.1 sh397) (x_fvR (by decide +kernel) (hw.2 397 8 405 lk397_8)) ?_
    refine e_ld (pc' := 12) i188_11 rfl rfl ?_
    obtain ⟨k4, e5, g6, H⟩ := H
    refine e_al (n := k4) (w := .int (gI h 405 k4)) (pc' := 13) i188_12 rfl (x_alE (a := 20) (by decide) hw.1 sh405 (by decide) e5 g6 (by decide)) (x_clE e5 g6 (by decide)) rfl ?_
    refine e_if (pc' := 16) i188_13 rfl (fun c7 => ?_) (fun c7 => ?_)
    · have d8 : (gI h 405 k4) = 0 := (of_decide_eq_true c7)
      replace H := H.1 d8
      refine e_cn (pc' := 41) i188_40 rfl ?_
      refine e_rt i188_41 rfl ?_
      exact H
    · have d9 : ¬ ((gI h 405 k4) = 0) := (of_decide_eq_false c7)
      replace H := H.2 d9
      refine e_ld (pc' := 17) i188_16 rfl rfl ?_
      refine e_get (w := .ref 405) (pc' := 20) i188_17 rfl (x_isC (by decide) hw.1 sh397) (x_fvR (by decide +kernel) (hw.2 397 8 405 lk397_8)) ?_
      refine e_ld (pc' := 21) i188_20 rfl rfl ?_
      refine e_al (n := k4) (w := .int (gI h 405 k4)) (pc' := 22) i188_21 rfl (x_alE (a := 20) (by decide) hw.1 sh405 (by decide) e5 g6 (by decide)) (x_clE e5 g6 (by decide)) rfl ?_
      refine e_cn (pc' := 23) i188_22 rfl ?_
      refine e_ic (pc' := 26) i188_23 rfl (fun c10 => ?_) (fun c10 => ?_)
      · have d11 : (gI h 405 k4) = 3 := (of_decide_eq_true c10)
        replace H := H.1 d11
        refine e_cn (pc' := 41) i188_40 rfl ?_
        refine e_rt i188_41 rfl ?_
        exact H
      · have d12 : ¬ ((gI h 405 k4) = 3) := (of_decide_eq_false c10)
        replace H := H.2 d12
        refine e_ld (pc' := 27) i188_26 rfl rfl ?_
        refine e_get (w := .ref 405) (pc' := 30) i188_27 rfl (x_isC (by decide) hw.1 sh397) (x_fvR (by decide +kernel) (hw.2 397 8 405 lk397_8)) ?_
        refine e_ld (pc' := 31) i188_30 rfl rfl ?_
        refine e_al (n := k4) (w := .int (gI h 405 k4)) (pc' := 32) i188_31 rfl (x_alE (a := 20) (by decide) hw.1 sh405 (by decide) e5 g6 (by decide)) (x_clE e5 g6 (by decide)) rfl ?_
        refine e_cn (pc' := 33) i188_32 rfl ?_
        refine e_reg (pc' := 41) (ls' := [some (.ref 397), some (.int x)]) (st' := [.int (b2i (if (gI h 405 k4) = 5 then (false) else (true)))]) (fun kj13 => ?_) ?_
        · skip
          refine e_ic (pc' := 36) i188_33 rfl (fun c14 => ?_) (fun c14 => ?_)
          · have d15 : (gI h 405 k4) = 5 := (of_decide_eq_true c14)
            refine e_cn (pc' := 41) i188_40 rfl ?_
            exact (by simp only [if_pos d15] at kj13 ⊢; exact kj13)
          · have d16 : ¬ ((gI h 405 k4) = 5) := (of_decide_eq_false c14)
            refine e_cn (pc' := 37) i188_36 rfl ?_
            refine e_go i188_37 ?_
            exact (by simp only [if_neg d16] at kj13 ⊢; exact kj13)
        refine e_rt (r := some (.int (b2i (if (gI h 405 k4) = 5 then (false) else (true))))) i188_41 (by simp only [x_rt, show MR 188 = some .boolean by decide +kernel, b2i_01, cond_true]) ?_
        exact H
-- FloorTurnModel.findPath(II)I
set_option maxHeartbeats 8000000 in
set_option maxRecDepth 100000 in
theorem v189 {L : Nat} {xs : Nat → Int32} {Q : Option Value → Hp → Prop} {h : Hp} {x : Int32} {y : Int32} (hw : HW h) 
  (H : ∃ (r2 : Int32), Sp L xs 187 [.ref 397, .int x] h (some (.int r2)) h ∧ ((r2 = 0) → (Q (some (.int (-1))) h)) ∧ (¬ (r2 = 0) → (∃ (r7 : Int32), Sp L xs 188 [.ref 397, .int y] h (some (.int r7)) h ∧ ((r7 = 0) → (Q (some (.int (-1))) h)) ∧ (¬ (r7 = 0) → (((x = y) → (Q (some (.int (-1))) h)) ∧ (¬ (x = y) → (∃ (h13 : Hp), Sp L xs 185 [.ref 397, .int y] h none h13 ∧ WP L xs 189 35 [some (.ref 397), some (.int x), some (.int y), some (.int 1000), some (.int 0), none] [] h13 Q))))))) : ∃ r h', Sp L xs 189 [.ref 397, .int x, .int y] h r h' ∧ Q r h' := by
  refine sp_ex (ls := [some (.ref 397), some (.int x), some (.int y), none, none, none]) rfl ?_
  refine e_ld (pc' := 1) i189_0 rfl rfl ?_
  refine e_ld (pc' := 2) i189_1 rfl rfl ?_
  obtain ⟨r2, s1, H⟩ := H
  refine e_cI (w := .int r2) (As := [.ref 397, .int x]) (rest := []) (pc' := 5) i189_2 rfl rfl rfl rfl (by show (Nat.beq (x_kd 187) 0 && x_is 397 _ (MC 187) 0) = true; rw [show x_kd 187 = 0 by decide +kernel, show MC 187 = 11 by decide +kernel, (x_isC (by decide) hw.1 sh397)]; rfl) s1 ?_
  refine e_if (pc' := 8) i189_5 rfl (fun c3 => ?_) (fun c3 => ?_)
  · have d4 : r2 = 0 := (of_decide_eq_true c3)
    replace H := H.1 d4
    refine e_cn (pc' := 22) i189_21 rfl ?_
    refine e_rt i189_22 rfl ?_
    exact H
  · have d5 : ¬ (r2 = 0) := (of_decide_eq_false c3)
    replace H := H.2 d5
    refine e_ld (pc' := 9) i189_8 rfl rfl ?_
    refine e_ld (pc' := 10) i189_9 rfl rfl ?_
    obtain ⟨r7, s6, H⟩ := H
    refine e_cI (w := .int r7) (As := [.ref 397, .int y]) (rest := []) (pc' := 13) i189_10 rfl rfl rfl rfl (by show (Nat.beq (x_kd 188) 0 && x_is 397 _ (MC 188) 0) = true; rw [show x_kd 188 = 0 by decide +kernel, show MC 188 = 11 by decide +kernel, (x_isC (by decide) hw.1 sh397)]; rfl) s6 ?_
    refine e_if (pc' := 16) i189_13 rfl (fun c8 => ?_) (fun c8 => ?_)
    · have d9 : r7 = 0 := (of_decide_eq_true c8)
      replace H := H.1 d9
      refine e_cn (pc' := 22) i189_21 rfl ?_
      refine e_rt i189_22 rfl ?_
      exact H
    · have d10 : ¬ (r7 = 0) := (of_decide_eq_false c8)
      replace H := H.2 d10
      refine e_ld (pc' := 17) i189_16 rfl rfl ?_
      refine e_ld (pc' := 18) i189_17 rfl rfl ?_
      refine e_ic (pc' := 21) i189_18 rfl (fun c11 => ?_) (fun c11 => ?_)
      · have d12 : ¬ (x = y) := (of_decide_eq_true c11)
        replace H := H.2 d12
        refine e_ld (pc' := 24) i189_23 rfl rfl ?_
        refine e_ld (pc' := 25) i189_24 rfl rfl ?_
        obtain ⟨h13, s14, H⟩ := H
        have w16q := HW_sp (show x_okm 185 = true by rfl) s14 hw
        have w16 : HW h13 := w16q.1
        refine e_cV (As := [.ref 397, .int y]) (rest := []) (pc' := 28) i189_25 rfl rfl rfl rfl (by show (Nat.beq (x_kd 185) 0 && x_is 397 _ (MC 185) 0) = true; rw [show x_kd 185 = 0 by decide +kernel, show MC 185 = 11 by decide +kernel, (x_isC (by decide) hw.1 sh397)]; rfl) s14 ?_
        refine e_cn (pc' := 31) i189_28 rfl ?_
        refine e_st (ls' := [some (.ref 397), some (.int x), some (.int y), some (.int 1000), none, none]) (pc' := 32) i189_31 rfl rfl rfl ?_
        refine e_cn (pc' := 33) i189_32 rfl ?_
        refine e_st (ls' := [some (.ref 397), some (.int x), some (.int y), some (.int 1000), some (.int 0), none]) (pc' := 35) i189_33 rfl rfl rfl ?_
        exact H
      · have d16 : x = y := (Decidable.not_not.mp (of_decide_eq_false c11))
        replace H := H.1 d16
        refine e_cn (pc' := 22) i189_21 rfl ?_
        refine e_rt i189_22 rfl ?_
        exact H
set_option maxHeartbeats 8000000 in
set_option maxRecDepth 100000 in
theorem v189_35 {L : Nat} {xs : Nat → Int32} {Q : Option Value → Hp → Prop} {h : Hp} {l1 : Int32} {l2 : Int32} {l3 : Int32} {l4 : Int32} {z5 : Option Value} (hw : HW h) 
  (H : ((4 ≤ l4) → (Q (some (.int (if l3 = 1000 then ((-1)) else (l3)))) h)) ∧ (¬ (4 ≤ l4) → ((((nxt l1 l4) = (-1)) → (WP L xs 189 35 [some (.ref 397), some (.int l1), some (.int l2), some (.int l3), some (.int (l4 + 1)), some (.int (nxt l1 l4))] [] h Q)) ∧ (¬ ((nxt l1 l4) = (-1)) → (∃ (r12 : Int32), Sp L xs 128 [.ref 397, .int l1, .int l4] h (some (.int r12)) h ∧ ((r12 = 0) → (WP L xs 189 35 [some (.ref 397), some (.int l1), some (.int l2), some (.int l3), some (.int (l4 + 1)), some (.int (nxt l1 l4))] [] h Q)) ∧ (¬ (r12 = 0) → ((((nxt l1 l4) = l2) → (∃ (r29 : Int32), Sp L xs 128 [.ref 397, .int l2, .int ((l4 + 2) - (l4 + 2) / 4 * 4)] h (some (.int r29)) h ∧ ((r29 = 0) → (Q (some (.int 0)) h)) ∧ (¬ (r29 = 0) → (∃ k32 : Nat, (nxt l1 l4) = nI k32 ∧ k32 < 144 ∧ (((gI h 405 k32) = 0) → (((l3 ≤ (gI h 443 k32)) → (WP L xs 189 35 [some (.ref 397), some (.int l1), some (.int l2), some (.int l3), some (.int (l4 + 1)), some (.int (nxt l1 l4))] [] h Q)) ∧ (¬ (l3 ≤ (gI h 443 k32)) → (WP L xs 189 35 [some (.ref 397), some (.int l1), some (.int l2), some (.int (gI h 443 k32)), some (.int (l4 + 1)), some (.int (nxt l1 l4))] [] h Q)))) ∧ (¬ ((gI h 405 k32) = 0) → (WP L xs 189 35 [some (.ref 397), some (.int l1), some (.int l2), some (.int l3), some (.int (l4 + 1)), some (.int (nxt l1 l4))] [] h Q)))))) ∧ (¬ ((nxt l1 l4) = l2) → (∃ k18 : Nat, (nxt l1 l4) = nI k18 ∧ k18 < 144 ∧ (((gI h 405 k18) = 0) → (((l3 ≤ (gI h 443 k18)) → (WP L xs 189 35 [some (.ref 397), some (.int l1), some (.int l2), some (.int l3), some (.int (l4 + 1)), some (.int (nxt l1 l4))] [] h Q)) ∧ (¬ (l3 ≤ (gI h 443 k18)) → (WP L xs 189 35 [some (.ref 397), some (.int l1), some (.int l2), some (.int (gI h 443 k18)), some (.int (l4 + 1)), some (.int (nxt l1 l4))] [] h Q)))) ∧ (¬ ((gI h 405 k18) = 0) → (WP L xs 189 35 [some (.ref 397), some (.int l1), some (.int l2), some (.int l3), some (.int (l4 + 1)), some (.int (nxt l1 l4))] [] h Q))))))))))) : WP L xs 189 35 [some (.ref 397), some (.int l1), some (.int l2), some (.int l3), some (.int l4), z5] [] h Q := by
  refine e_ld (pc' := 37) i189_35 rfl rfl ?_
  refine e_cn (pc' := 38) i189_37 rfl ?_
  refine e_ic (pc' := 41) i189_38 rfl (fun c1 => ?_) (fun c1 => ?_)
  · have d2 : 4 ≤ l4 := (of_decide_eq_true c1)
    replace H := H.1 d2
    refine e_ld (pc' := 127) i189_126 rfl rfl ?_
    refine e_cn (pc' := 130) i189_127 rfl ?_
    refine e_reg (pc' := 138) (ls' := [some (.ref 397), some (.int l1), some (.int l2), some (.int l3), some (.int l4), z5]) (st' := [.int (if l3 = 1000 then ((-1)) else (l3))]) (fun kj3 => ?_) ?_
    · skip
      refine e_ic (pc' := 133) i189_130 rfl (fun c4 => ?_) (fun c4 => ?_)
      · have d5 : ¬ (l3 = 1000) := (of_decide_eq_true c4)
        refine e_ld (pc' := 138) i189_137 rfl rfl ?_
        exact (by simp only [if_neg d5] at kj3 ⊢; exact kj3)
      · have d6 : l3 = 1000 := (Decidable.not_not.mp (of_decide_eq_false c4))
        refine e_cn (pc' := 134) i189_133 rfl ?_
        refine e_go i189_134 ?_
        exact (by simp only [if_pos d6] at kj3 ⊢; exact kj3)
    refine e_rt i189_138 rfl ?_
    exact H
  · have d7 : ¬ (4 ≤ l4) := (of_decide_eq_false c1)
    replace H := H.2 d7
    refine e_ld (pc' := 42) i189_41 rfl rfl ?_
    refine e_ld (pc' := 44) i189_42 rfl rfl ?_
    refine e_cI (w := .int (nxt l1 l4)) (As := [.int l1, .int l4]) (rest := []) (pc' := 47) i189_44 rfl rfl rfl rfl rfl m127 ?_
    refine e_st (ls' := [some (.ref 397), some (.int l1), some (.int l2), some (.int l3), some (.int l4), some (.int (nxt l1 l4))]) (pc' := 49) i189_47 rfl rfl rfl ?_
    refine e_ld (pc' := 51) i189_49 rfl rfl ?_
    refine e_cn (pc' := 52) i189_51 rfl ?_
    refine e_ic (pc' := 55) i189_52 rfl (fun c8 => ?_) (fun c8 => ?_)
    · have d9 : (nxt l1 l4) = (-1) := (of_decide_eq_true c8)
      replace H := H.1 d9
      refine e_inc (z := l4 + 1) (ls' := [some (.ref 397), some (.int l1), some (.int l2), some (.int l3), some (.int (l4 + 1)), some (.int (nxt l1 l4))]) (pc' := 123) i189_120 rfl rfl rfl rfl ?_
      refine e_go i189_123 ?_
      exact H
    · have d10 : ¬ ((nxt l1 l4) = (-1)) := (of_decide_eq_false c8)
      replace H := H.2 d10
      refine e_ld (pc' := 56) i189_55 rfl rfl ?_
      refine e_ld (pc' := 57) i189_56 rfl rfl ?_
      refine e_ld (pc' := 59) i189_57 rfl rfl ?_
      obtain ⟨r12, s11, H⟩ := H
      refine e_cI (w := .int r12) (As := [.ref 397, .int l1, .int l4]) (rest := []) (pc' := 62) i189_59 rfl rfl rfl rfl (by show (Nat.beq (x_kd 128) 0 && x_is 397 _ (MC 128) 0) = true; rw [show x_kd 128 = 0 by decide +kernel, show MC 128 = 11 by decide +kernel, (x_isC (by decide) hw.1 sh397)]; rfl) s11 ?_
      refine e_if (pc' := 65) i189_62 rfl (fun c13 => ?_) (fun c13 => ?_)
      · have d14 : r12 = 0 := (of_decide_eq_true c13)
        replace H := H.1 d14
        refine e_inc (z := l4 + 1) (ls' := [some (.ref 397), some (.int l1), some (.int l2), some (.int l3), some (.int (l4 + 1)), some (.int (nxt l1 l4))]) (pc' := 123) i189_120 rfl rfl rfl rfl ?_
        refine e_go i189_123 ?_
        exact H
      · have d15 : ¬ (r12 = 0) := (of_decide_eq_false c13)
        replace H := H.2 d15
        refine e_ld (pc' := 67) i189_65 rfl rfl ?_
        refine e_ld (pc' := 68) i189_67 rfl rfl ?_
        refine e_ic (pc' := 71) i189_68 rfl (fun c16 => ?_) (fun c16 => ?_)
        · have d17 : ¬ ((nxt l1 l4) = l2) := (of_decide_eq_true c16)
          replace H := H.2 d17
          refine e_ld (pc' := 88) i189_87 rfl rfl ?_
          refine e_get (w := .ref 405) (pc' := 91) i189_88 rfl (x_isC (by decide) hw.1 sh397) (x_fvR (by decide +kernel) (hw.2 397 8 405 lk397_8)) ?_
          refine e_ld (pc' := 93) i189_91 rfl rfl ?_
          obtain ⟨k18, e19, g20, H⟩ := H
          refine e_al (n := k18) (w := .int (gI h 405 k18)) (pc' := 94) i189_93 rfl (x_alE (a := 20) (by decide) hw.1 sh405 (by decide) e19 g20 (by decide)) (x_clE e19 g20 (by decide)) rfl ?_
          refine e_if (pc' := 97) i189_94 rfl (fun c21 => ?_) (fun c21 => ?_)
          · have d22 : ¬ ((gI h 405 k18) = 0) := (of_decide_eq_true c21)
            replace H := H.2 d22
            refine e_ld (pc' := 119) i189_118 rfl rfl ?_
            refine e_st (ls' := [some (.ref 397), some (.int l1), some (.int l2), some (.int l3), some (.int l4), some (.int (nxt l1 l4))]) (pc' := 120) i189_119 rfl rfl rfl ?_
            refine e_inc (z := l4 + 1) (ls' := [some (.ref 397), some (.int l1), some (.int l2), some (.int l3), some (.int (l4 + 1)), some (.int (nxt l1 l4))]) (pc' := 123) i189_120 rfl rfl rfl rfl ?_
            refine e_go i189_123 ?_
            exact H
          · have d23 : (gI h 405 k18) = 0 := (Decidable.not_not.mp (of_decide_eq_false c21))
            replace H := H.1 d23
            refine e_ld (pc' := 98) i189_97 rfl rfl ?_
            refine e_get (w := .ref 443) (pc' := 101) i189_98 rfl (x_isC (by decide) hw.1 sh397) (x_fvR (by decide +kernel) (hw.2 397 50 443 lk397_50)) ?_
            refine e_ld (pc' := 103) i189_101 rfl rfl ?_
            refine e_al (n := k18) (w := .int (gI h 443 k18)) (pc' := 104) i189_103 rfl (x_alE (a := 20) (by decide) hw.1 sh443 (by decide) e19 g20 (by decide)) (x_clE e19 g20 (by decide)) rfl ?_
            refine e_ld (pc' := 105) i189_104 rfl rfl ?_
            refine e_ic (pc' := 108) i189_105 rfl (fun c24 => ?_) (fun c24 => ?_)
            · have d25 : l3 ≤ (gI h 443 k18) := (of_decide_eq_true c24)
              replace H := H.1 d25
              refine e_ld (pc' := 119) i189_118 rfl rfl ?_
              refine e_st (ls' := [some (.ref 397), some (.int l1), some (.int l2), some (.int l3), some (.int l4), some (.int (nxt l1 l4))]) (pc' := 120) i189_119 rfl rfl rfl ?_
              refine e_inc (z := l4 + 1) (ls' := [some (.ref 397), some (.int l1), some (.int l2), some (.int l3), some (.int (l4 + 1)), some (.int (nxt l1 l4))]) (pc' := 123) i189_120 rfl rfl rfl rfl ?_
              refine e_go i189_123 ?_
              exact H
            · have d26 : ¬ (l3 ≤ (gI h 443 k18)) := (of_decide_eq_false c24)
              replace H := H.2 d26
              refine e_ld (pc' := 109) i189_108 rfl rfl ?_
              refine e_get (w := .ref 443) (pc' := 112) i189_109 rfl (x_isC (by decide) hw.1 sh397) (x_fvR (by decide +kernel) (hw.2 397 50 443 lk397_50)) ?_
              refine e_ld (pc' := 114) i189_112 rfl rfl ?_
              refine e_al (n := k18) (w := .int (gI h 443 k18)) (pc' := 115) i189_114 rfl (x_alE (a := 20) (by decide) hw.1 sh443 (by decide) e19 g20 (by decide)) (x_clE e19 g20 (by decide)) rfl ?_
              refine e_go i189_115 ?_
              refine e_st (ls' := [some (.ref 397), some (.int l1), some (.int l2), some (.int (gI h 443 k18)), some (.int l4), some (.int (nxt l1 l4))]) (pc' := 120) i189_119 rfl rfl rfl ?_
              refine e_inc (z := l4 + 1) (ls' := [some (.ref 397), some (.int l1), some (.int l2), some (.int (gI h 443 k18)), some (.int (l4 + 1)), some (.int (nxt l1 l4))]) (pc' := 123) i189_120 rfl rfl rfl rfl ?_
              refine e_go i189_123 ?_
              exact H
        · have d27 : (nxt l1 l4) = l2 := (Decidable.not_not.mp (of_decide_eq_false c16))
          replace H := H.1 d27
          refine e_ld (pc' := 72) i189_71 rfl rfl ?_
          refine e_ld (pc' := 73) i189_72 rfl rfl ?_
          refine e_ld (pc' := 75) i189_73 rfl rfl ?_
          refine e_cn (pc' := 76) i189_75 rfl ?_
          refine e_ib (z := l4 + 2) (pc' := 77) i189_76 rfl rfl ?_
          refine e_cn (pc' := 78) i189_77 rfl ?_
          refine e_ib (z := (l4 + 2) - (l4 + 2) / 4 * 4) (pc' := 79) i189_78 rfl (x_ib_rem (by decide)) ?_
          obtain ⟨r29, s28, H⟩ := H
          refine e_cI (w := .int r29) (As := [.ref 397, .int l2, .int ((l4 + 2) - (l4 + 2) / 4 * 4)]) (rest := []) (pc' := 82) i189_79 rfl rfl rfl rfl (by show (Nat.beq (x_kd 128) 0 && x_is 397 _ (MC 128) 0) = true; rw [show x_kd 128 = 0 by decide +kernel, show MC 128 = 11 by decide +kernel, (x_isC (by decide) hw.1 sh397)]; rfl) s28 ?_
          refine e_if (pc' := 85) i189_82 rfl (fun c30 => ?_) (fun c30 => ?_)
          · have d31 : ¬ (r29 = 0) := (of_decide_eq_true c30)
            replace H := H.2 d31
            refine e_ld (pc' := 88) i189_87 rfl rfl ?_
            refine e_get (w := .ref 405) (pc' := 91) i189_88 rfl (x_isC (by decide) hw.1 sh397) (x_fvR (by decide +kernel) (hw.2 397 8 405 lk397_8)) ?_
            refine e_ld (pc' := 93) i189_91 rfl rfl ?_
            obtain ⟨k32, e33, g34, H⟩ := H
            refine e_al (n := k32) (w := .int (gI h 405 k32)) (pc' := 94) i189_93 rfl (x_alE (a := 20) (by decide) hw.1 sh405 (by decide) e33 g34 (by decide)) (x_clE e33 g34 (by decide)) rfl ?_
            refine e_if (pc' := 97) i189_94 rfl (fun c35 => ?_) (fun c35 => ?_)
            · have d36 : ¬ ((gI h 405 k32) = 0) := (of_decide_eq_true c35)
              replace H := H.2 d36
              refine e_ld (pc' := 119) i189_118 rfl rfl ?_
              refine e_st (ls' := [some (.ref 397), some (.int l1), some (.int l2), some (.int l3), some (.int l4), some (.int (nxt l1 l4))]) (pc' := 120) i189_119 rfl rfl rfl ?_
              refine e_inc (z := l4 + 1) (ls' := [some (.ref 397), some (.int l1), some (.int l2), some (.int l3), some (.int (l4 + 1)), some (.int (nxt l1 l4))]) (pc' := 123) i189_120 rfl rfl rfl rfl ?_
              refine e_go i189_123 ?_
              exact H
            · have d37 : (gI h 405 k32) = 0 := (Decidable.not_not.mp (of_decide_eq_false c35))
              replace H := H.1 d37
              refine e_ld (pc' := 98) i189_97 rfl rfl ?_
              refine e_get (w := .ref 443) (pc' := 101) i189_98 rfl (x_isC (by decide) hw.1 sh397) (x_fvR (by decide +kernel) (hw.2 397 50 443 lk397_50)) ?_
              refine e_ld (pc' := 103) i189_101 rfl rfl ?_
              refine e_al (n := k32) (w := .int (gI h 443 k32)) (pc' := 104) i189_103 rfl (x_alE (a := 20) (by decide) hw.1 sh443 (by decide) e33 g34 (by decide)) (x_clE e33 g34 (by decide)) rfl ?_
              refine e_ld (pc' := 105) i189_104 rfl rfl ?_
              refine e_ic (pc' := 108) i189_105 rfl (fun c38 => ?_) (fun c38 => ?_)
              · have d39 : l3 ≤ (gI h 443 k32) := (of_decide_eq_true c38)
                replace H := H.1 d39
                refine e_ld (pc' := 119) i189_118 rfl rfl ?_
                refine e_st (ls' := [some (.ref 397), some (.int l1), some (.int l2), some (.int l3), some (.int l4), some (.int (nxt l1 l4))]) (pc' := 120) i189_119 rfl rfl rfl ?_
                refine e_inc (z := l4 + 1) (ls' := [some (.ref 397), some (.int l1), some (.int l2), some (.int l3), some (.int (l4 + 1)), some (.int (nxt l1 l4))]) (pc' := 123) i189_120 rfl rfl rfl rfl ?_
                refine e_go i189_123 ?_
                exact H
              · have d40 : ¬ (l3 ≤ (gI h 443 k32)) := (of_decide_eq_false c38)
                replace H := H.2 d40
                refine e_ld (pc' := 109) i189_108 rfl rfl ?_
                refine e_get (w := .ref 443) (pc' := 112) i189_109 rfl (x_isC (by decide) hw.1 sh397) (x_fvR (by decide +kernel) (hw.2 397 50 443 lk397_50)) ?_
                refine e_ld (pc' := 114) i189_112 rfl rfl ?_
                refine e_al (n := k32) (w := .int (gI h 443 k32)) (pc' := 115) i189_114 rfl (x_alE (a := 20) (by decide) hw.1 sh443 (by decide) e33 g34 (by decide)) (x_clE e33 g34 (by decide)) rfl ?_
                refine e_go i189_115 ?_
                refine e_st (ls' := [some (.ref 397), some (.int l1), some (.int l2), some (.int (gI h 443 k32)), some (.int l4), some (.int (nxt l1 l4))]) (pc' := 120) i189_119 rfl rfl rfl ?_
                refine e_inc (z := l4 + 1) (ls' := [some (.ref 397), some (.int l1), some (.int l2), some (.int (gI h 443 k32)), some (.int (l4 + 1)), some (.int (nxt l1 l4))]) (pc' := 123) i189_120 rfl rfl rfl rfl ?_
                refine e_go i189_123 ?_
                exact H
          · have d41 : r29 = 0 := (Decidable.not_not.mp (of_decide_eq_false c30))
            replace H := H.1 d41
            refine e_cn (pc' := 86) i189_85 rfl ?_
            refine e_rt i189_86 rfl ?_
            exact H
-- FloorTurnModel.path(II)I
set_option maxHeartbeats 8000000 in
set_option maxRecDepth 100000 in
theorem v190 {L : Nat} {xs : Nat → Int32} {Q : Option Value → Hp → Prop} {h : Hp} {x : Int32} {y : Int32} (hw : HW h) 
  (H : ∃ (r3 : Int32) (h1 : Hp), Sp L xs 189 [.ref 397, .int x, .int y] h (some (.int r3)) h1 ∧ Q (some (.int r3)) h1) : ∃ r h', Sp L xs 190 [.ref 397, .int x, .int y] h r h' ∧ Q r h' := by
  refine sp_ex (ls := [some (.ref 397), some (.int x), some (.int y)]) rfl ?_
  refine e_ld (pc' := 1) i190_0 rfl rfl ?_
  refine e_ld (pc' := 2) i190_1 rfl rfl ?_
  refine e_ld (pc' := 3) i190_2 rfl rfl ?_
  obtain ⟨r3, h1, s2, H⟩ := H
  have w5q := HW_sp (show x_okm 189 = true by rfl) s2 hw
  have w5 : HW h1 := w5q.1
  refine e_cI (w := .int r3) (As := [.ref 397, .int x, .int y]) (rest := []) (pc' := 6) i190_3 rfl rfl rfl rfl (by show (Nat.beq (x_kd 189) 0 && x_is 397 _ (MC 189) 0) = true; rw [show x_kd 189 = 0 by decide +kernel, show MC 189 = 11 by decide +kernel, (x_isC (by decide) hw.1 sh397)]; rfl) s2 ?_
  refine e_rt i190_6 rfl ?_
  exact H
-- FloorTurnModel.sideOn(IIIZ)I
set_option maxHeartbeats 8000000 in
set_option maxRecDepth 100000 in
theorem v191 {L : Nat} {xs : Nat → Int32} {Q : Option Value → Hp → Prop} {h : Hp} {x : Int32} {y : Int32} {z : Int32} {u : Bool} (hw : HW h) 
  (H : WP L xs 191 3 [some (.ref 397), some (.int x), some (.int y), some (.int z), some (.int (b2i u)), some (.int 0), none, none] [] h Q) : ∃ r h', Sp L xs 191 [.ref 397, .int x, .int y, .int z, .int (b2i u)] h r h' ∧ Q r h' := by
  refine sp_ex (ls := [some (.ref 397), some (.int x), some (.int y), some (.int z), some (.int (b2i u)), none, none, none]) rfl ?_
  refine e_cn (pc' := 1) i191_0 rfl ?_
  refine e_st (ls' := [some (.ref 397), some (.int x), some (.int y), some (.int z), some (.int (b2i u)), some (.int 0), none, none]) (pc' := 3) i191_1 rfl rfl rfl ?_
  exact H
set_option maxHeartbeats 8000000 in
set_option maxRecDepth 100000 in
theorem v191_3 {L : Nat} {xs : Nat → Int32} {Q : Option Value → Hp → Prop} {h : Hp} {u : Bool} {l1 : Int32} {l2 : Int32} {l3 : Int32} {l5 : Int32} {z6 : Option Value} {z7 : Option Value} (hw : HW h) 
  (H : ((4 ≤ l5) → (Q (some (.int (-1))) h)) ∧ (¬ (4 ≤ l5) → ((((nxt l1 l5) = (-1)) → (WP L xs 191 3 [some (.ref 397), some (.int l1), some (.int l2), some (.int l3), some (.int (b2i u)), some (.int (l5 + 1)), some (.int (nxt l1 l5)), some (.int 0)] [] h Q)) ∧ (¬ ((nxt l1 l5) = (-1)) → (((u = true) → (∃ (r31 : Int32), Sp L xs 128 [.ref 397, .int l1, .int l5] h (some (.int r31)) h ∧ (((if r31 = 0 then (false) else (true)) = true) → (((l3 = 0) → ((((nxt l1 l5) = l2) → (∃ (r55 : Int32), Sp L xs 128 [.ref 397, .int l2, .int ((l5 + 2) - (l5 + 2) / 4 * 4)] h (some (.int r55)) h ∧ ((r55 = 0) → (Q (some (.int l5)) h)) ∧ (¬ (r55 = 0) → (WP L xs 191 3 [some (.ref 397), some (.int l1), some (.int l2), some (.int l3), some (.int (b2i u)), some (.int (l5 + 1)), some (.int (nxt l1 l5)), some (.int (b2i (if r31 = 0 then (false) else (true))))] [] h Q)))) ∧ (¬ ((nxt l1 l5) = l2) → (WP L xs 191 3 [some (.ref 397), some (.int l1), some (.int l2), some (.int l3), some (.int (b2i u)), some (.int (l5 + 1)), some (.int (nxt l1 l5)), some (.int (b2i (if r31 = 0 then (false) else (true))))] [] h Q)))) ∧ (¬ (l3 = 0) → (∃ k41 : Nat, (nxt l1 l5) = nI k41 ∧ k41 < 144 ∧ (((gI h 405 k41) = 0) → ((((gI h 443 k41) = l3) → (Q (some (.int l5)) h)) ∧ (¬ ((gI h 443 k41) = l3) → (WP L xs 191 3 [some (.ref 397), some (.int l1), some (.int l2), some (.int l3), some (.int (b2i u)), some (.int (l5 + 1)), some (.int (nxt l1 l5)), some (.int (b2i (if r31 = 0 then (false) else (true))))] [] h Q)))) ∧ (¬ ((gI h 405 k41) = 0) → (WP L xs 191 3 [some (.ref 397), some (.int l1), some (.int l2), some (.int l3), some (.int (b2i u)), some (.int (l5 + 1)), some (.int (nxt l1 l5)), some (.int (b2i (if r31 = 0 then (false) else (true))))] [] h Q)))))) ∧ (¬ ((if r31 = 0 then (false) else (true)) = true) → (WP L xs 191 3 [some (.ref 397), some (.int l1), some (.int l2), some (.int l3), some (.int (b2i u)), some (.int (l5 + 1)), some (.int (nxt l1 l5)), some (.int (b2i (if r31 = 0 then (false) else (true))))] [] h Q)))) ∧ (¬ (u = true) → (((l3 = 0) → ((((nxt l1 l5) = l2) → (∃ (r25 : Int32), Sp L xs 128 [.ref 397, .int l2, .int ((l5 + 2) - (l5 + 2) / 4 * 4)] h (some (.int r25)) h ∧ ((r25 = 0) → (Q (some (.int l5)) h)) ∧ (¬ (r25 = 0) → (WP L xs 191 3 [some (.ref 397), some (.int l1), some (.int l2), some (.int l3), some (.int (b2i u)), some (.int (l5 + 1)), some (.int (nxt l1 l5)), some (.int 1)] [] h Q)))) ∧ (¬ ((nxt l1 l5) = l2) → (WP L xs 191 3 [some (.ref 397), some (.int l1), some (.int l2), some (.int l3), some (.int (b2i u)), some (.int (l5 + 1)), some (.int (nxt l1 l5)), some (.int 1)] [] h Q)))) ∧ (¬ (l3 = 0) → (∃ k11 : Nat, (nxt l1 l5) = nI k11 ∧ k11 < 144 ∧ (((gI h 405 k11) = 0) → ((((gI h 443 k11) = l3) → (Q (some (.int l5)) h)) ∧ (¬ ((gI h 443 k11) = l3) → (WP L xs 191 3 [some (.ref 397), some (.int l1), some (.int l2), some (.int l3), some (.int (b2i u)), some (.int (l5 + 1)), some (.int (nxt l1 l5)), some (.int 1)] [] h Q)))) ∧ (¬ ((gI h 405 k11) = 0) → (WP L xs 191 3 [some (.ref 397), some (.int l1), some (.int l2), some (.int l3), some (.int (b2i u)), some (.int (l5 + 1)), some (.int (nxt l1 l5)), some (.int 1)] [] h Q))))))))))) : WP L xs 191 3 [some (.ref 397), some (.int l1), some (.int l2), some (.int l3), some (.int (b2i u)), some (.int l5), z6, z7] [] h Q := by
  refine e_ld (pc' := 5) i191_3 rfl rfl ?_
  refine e_cn (pc' := 6) i191_5 rfl ?_
  refine e_ic (pc' := 9) i191_6 rfl (fun c1 => ?_) (fun c1 => ?_)
  · have d2 : 4 ≤ l5 := (of_decide_eq_true c1)
    replace H := H.1 d2
    refine e_cn (pc' := 108) i191_107 rfl ?_
    refine e_rt i191_108 rfl ?_
    exact H
  · have d3 : ¬ (4 ≤ l5) := (of_decide_eq_false c1)
    replace H := H.2 d3
    refine e_ld (pc' := 10) i191_9 rfl rfl ?_
    refine e_ld (pc' := 12) i191_10 rfl rfl ?_
    refine e_cI (w := .int (nxt l1 l5)) (As := [.int l1, .int l5]) (rest := []) (pc' := 15) i191_12 rfl rfl rfl rfl rfl m127 ?_
    refine e_st (ls' := [some (.ref 397), some (.int l1), some (.int l2), some (.int l3), some (.int (b2i u)), some (.int l5), some (.int (nxt l1 l5)), z7]) (pc' := 17) i191_15 rfl rfl rfl ?_
    refine e_ld (pc' := 19) i191_17 rfl rfl ?_
    refine e_cn (pc' := 20) i191_19 rfl ?_
    refine e_ic (pc' := 23) i191_20 rfl (fun c4 => ?_) (fun c4 => ?_)
    · have d5 : (nxt l1 l5) = (-1) := (of_decide_eq_true c4)
      replace H := H.1 d5
      refine e_cn (pc' := 43) i191_42 rfl ?_
      refine e_st (ls' := [some (.ref 397), some (.int l1), some (.int l2), some (.int l3), some (.int (b2i u)), some (.int l5), some (.int (nxt l1 l5)), some (.int 0)]) (pc' := 45) i191_43 rfl rfl rfl ?_
      refine e_ld (pc' := 47) i191_45 rfl rfl ?_
      refine e_ifT i191_47 (by decide) ?_
      refine e_inc (z := l5 + 1) (ls' := [some (.ref 397), some (.int l1), some (.int l2), some (.int l3), some (.int (b2i u)), some (.int (l5 + 1)), some (.int (nxt l1 l5)), some (.int 0)]) (pc' := 104) i191_101 rfl rfl rfl rfl ?_
      refine e_go i191_104 ?_
      exact H
    · have d6 : ¬ ((nxt l1 l5) = (-1)) := (of_decide_eq_false c4)
      replace H := H.2 d6
      refine e_ld (pc' := 25) i191_23 rfl rfl ?_
      refine e_b0 (pc' := 28) i191_25 rfl (fun c7 => ?_) (fun c7 => ?_)
      · have d8 : ¬ (u = true) := (show ¬ u = true by rw [c7]; decide)
        replace H := H.2 d8
        refine e_cn (pc' := 39) i191_38 rfl ?_
        refine e_go i191_39 ?_
        refine e_st (ls' := [some (.ref 397), some (.int l1), some (.int l2), some (.int l3), some (.int (b2i u)), some (.int l5), some (.int (nxt l1 l5)), some (.int 1)]) (pc' := 45) i191_43 rfl rfl rfl ?_
        refine e_ld (pc' := 47) i191_45 rfl rfl ?_
        refine e_ifF (pc' := 50) i191_47 rfl (by decide) ?_
        refine e_ld (pc' := 51) i191_50 rfl rfl ?_
        refine e_if (pc' := 54) i191_51 rfl (fun c9 => ?_) (fun c9 => ?_)
        · have d10 : ¬ (l3 = 0) := (of_decide_eq_true c9)
          replace H := H.2 d10
          refine e_ld (pc' := 78) i191_77 rfl rfl ?_
          refine e_get (w := .ref 405) (pc' := 81) i191_78 rfl (x_isC (by decide) hw.1 sh397) (x_fvR (by decide +kernel) (hw.2 397 8 405 lk397_8)) ?_
          refine e_ld (pc' := 83) i191_81 rfl rfl ?_
          obtain ⟨k11, e12, g13, H⟩ := H
          refine e_al (n := k11) (w := .int (gI h 405 k11)) (pc' := 84) i191_83 rfl (x_alE (a := 20) (by decide) hw.1 sh405 (by decide) e12 g13 (by decide)) (x_clE e12 g13 (by decide)) rfl ?_
          refine e_if (pc' := 87) i191_84 rfl (fun c14 => ?_) (fun c14 => ?_)
          · have d15 : ¬ ((gI h 405 k11) = 0) := (of_decide_eq_true c14)
            replace H := H.2 d15
            refine e_inc (z := l5 + 1) (ls' := [some (.ref 397), some (.int l1), some (.int l2), some (.int l3), some (.int (b2i u)), some (.int (l5 + 1)), some (.int (nxt l1 l5)), some (.int 1)]) (pc' := 104) i191_101 rfl rfl rfl rfl ?_
            refine e_go i191_104 ?_
            exact H
          · have d16 : (gI h 405 k11) = 0 := (Decidable.not_not.mp (of_decide_eq_false c14))
            replace H := H.1 d16
            refine e_ld (pc' := 88) i191_87 rfl rfl ?_
            refine e_get (w := .ref 443) (pc' := 91) i191_88 rfl (x_isC (by decide) hw.1 sh397) (x_fvR (by decide +kernel) (hw.2 397 50 443 lk397_50)) ?_
            refine e_ld (pc' := 93) i191_91 rfl rfl ?_
            refine e_al (n := k11) (w := .int (gI h 443 k11)) (pc' := 94) i191_93 rfl (x_alE (a := 20) (by decide) hw.1 sh443 (by decide) e12 g13 (by decide)) (x_clE e12 g13 (by decide)) rfl ?_
            refine e_ld (pc' := 95) i191_94 rfl rfl ?_
            refine e_ic (pc' := 98) i191_95 rfl (fun c17 => ?_) (fun c17 => ?_)
            · have d18 : ¬ ((gI h 443 k11) = l3) := (of_decide_eq_true c17)
              replace H := H.2 d18
              refine e_inc (z := l5 + 1) (ls' := [some (.ref 397), some (.int l1), some (.int l2), some (.int l3), some (.int (b2i u)), some (.int (l5 + 1)), some (.int (nxt l1 l5)), some (.int 1)]) (pc' := 104) i191_101 rfl rfl rfl rfl ?_
              refine e_go i191_104 ?_
              exact H
            · have d19 : (gI h 443 k11) = l3 := (Decidable.not_not.mp (of_decide_eq_false c17))
              replace H := H.1 d19
              refine e_ld (pc' := 100) i191_98 rfl rfl ?_
              refine e_rt i191_100 rfl ?_
              exact H
        · have d20 : l3 = 0 := (Decidable.not_not.mp (of_decide_eq_false c9))
          replace H := H.1 d20
          refine e_ld (pc' := 56) i191_54 rfl rfl ?_
          refine e_ld (pc' := 57) i191_56 rfl rfl ?_
          refine e_ic (pc' := 60) i191_57 rfl (fun c21 => ?_) (fun c21 => ?_)
          · have d22 : ¬ ((nxt l1 l5) = l2) := (of_decide_eq_true c21)
            replace H := H.2 d22
            refine e_inc (z := l5 + 1) (ls' := [some (.ref 397), some (.int l1), some (.int l2), some (.int l3), some (.int (b2i u)), some (.int (l5 + 1)), some (.int (nxt l1 l5)), some (.int 1)]) (pc' := 104) i191_101 rfl rfl rfl rfl ?_
            refine e_go i191_104 ?_
            exact H
          · have d23 : (nxt l1 l5) = l2 := (Decidable.not_not.mp (of_decide_eq_false c21))
            replace H := H.1 d23
            refine e_ld (pc' := 61) i191_60 rfl rfl ?_
            refine e_ld (pc' := 62) i191_61 rfl rfl ?_
            refine e_ld (pc' := 64) i191_62 rfl rfl ?_
            refine e_cn (pc' := 65) i191_64 rfl ?_
            refine e_ib (z := l5 + 2) (pc' := 66) i191_65 rfl rfl ?_
            refine e_cn (pc' := 67) i191_66 rfl ?_
            refine e_ib (z := (l5 + 2) - (l5 + 2) / 4 * 4) (pc' := 68) i191_67 rfl (x_ib_rem (by decide)) ?_
            obtain ⟨r25, s24, H⟩ := H
            refine e_cI (w := .int r25) (As := [.ref 397, .int l2, .int ((l5 + 2) - (l5 + 2) / 4 * 4)]) (rest := []) (pc' := 71) i191_68 rfl rfl rfl rfl (by show (Nat.beq (x_kd 128) 0 && x_is 397 _ (MC 128) 0) = true; rw [show x_kd 128 = 0 by decide +kernel, show MC 128 = 11 by decide +kernel, (x_isC (by decide) hw.1 sh397)]; rfl) s24 ?_
            refine e_if (pc' := 74) i191_71 rfl (fun c26 => ?_) (fun c26 => ?_)
            · have d27 : ¬ (r25 = 0) := (of_decide_eq_true c26)
              replace H := H.2 d27
              refine e_inc (z := l5 + 1) (ls' := [some (.ref 397), some (.int l1), some (.int l2), some (.int l3), some (.int (b2i u)), some (.int (l5 + 1)), some (.int (nxt l1 l5)), some (.int 1)]) (pc' := 104) i191_101 rfl rfl rfl rfl ?_
              refine e_go i191_104 ?_
              exact H
            · have d28 : r25 = 0 := (Decidable.not_not.mp (of_decide_eq_false c26))
              replace H := H.1 d28
              refine e_go i191_74 ?_
              refine e_ld (pc' := 100) i191_98 rfl rfl ?_
              refine e_rt i191_100 rfl ?_
              exact H
      · have d29 : u = true := c7
        replace H := H.1 d29
        refine e_ld (pc' := 29) i191_28 rfl rfl ?_
        refine e_ld (pc' := 30) i191_29 rfl rfl ?_
        refine e_ld (pc' := 32) i191_30 rfl rfl ?_
        obtain ⟨r31, s30, H⟩ := H
        refine e_cI (w := .int r31) (As := [.ref 397, .int l1, .int l5]) (rest := []) (pc' := 35) i191_32 rfl rfl rfl rfl (by show (Nat.beq (x_kd 128) 0 && x_is 397 _ (MC 128) 0) = true; rw [show x_kd 128 = 0 by decide +kernel, show MC 128 = 11 by decide +kernel, (x_isC (by decide) hw.1 sh397)]; rfl) s30 ?_
        refine e_reg (pc' := 43) (ls' := [some (.ref 397), some (.int l1), some (.int l2), some (.int l3), some (.int (b2i u)), some (.int l5), some (.int (nxt l1 l5)), z7]) (st' := [.int (b2i (if r31 = 0 then (false) else (true)))]) (fun kj32 => ?_) ?_
        · skip
          refine e_if (pc' := 38) i191_35 rfl (fun c33 => ?_) (fun c33 => ?_)
          · have d34 : r31 = 0 := (of_decide_eq_true c33)
            refine e_cn (pc' := 43) i191_42 rfl ?_
            exact (by simp only [if_pos d34] at kj32 ⊢; exact kj32)
          · have d35 : ¬ (r31 = 0) := (of_decide_eq_false c33)
            refine e_cn (pc' := 39) i191_38 rfl ?_
            refine e_go i191_39 ?_
            exact (by simp only [if_neg d35] at kj32 ⊢; exact kj32)
        refine e_st (ls' := [some (.ref 397), some (.int l1), some (.int l2), some (.int l3), some (.int (b2i u)), some (.int l5), some (.int (nxt l1 l5)), some (.int (b2i (if r31 = 0 then (false) else (true))))]) (pc' := 45) i191_43 rfl rfl rfl ?_
        refine e_ld (pc' := 47) i191_45 rfl rfl ?_
        refine e_b0 (pc' := 50) i191_47 rfl (fun c36 => ?_) (fun c36 => ?_)
        · have d37 : ¬ ((if r31 = 0 then (false) else (true)) = true) := (show ¬ (if r31 = 0 then (false) else (true)) = true by rw [c36]; decide)
          replace H := H.2 d37
          refine e_inc (z := l5 + 1) (ls' := [some (.ref 397), some (.int l1), some (.int l2), some (.int l3), some (.int (b2i u)), some (.int (l5 + 1)), some (.int (nxt l1 l5)), some (.int (b2i (if r31 = 0 then (false) else (true))))]) (pc' := 104) i191_101 rfl rfl rfl rfl ?_
          refine e_go i191_104 ?_
          exact H
        · have d38 : (if r31 = 0 then (false) else (true)) = true := c36
          replace H := H.1 d38
          refine e_ld (pc' := 51) i191_50 rfl rfl ?_
          refine e_if (pc' := 54) i191_51 rfl (fun c39 => ?_) (fun c39 => ?_)
          · have d40 : ¬ (l3 = 0) := (of_decide_eq_true c39)
            replace H := H.2 d40
            refine e_ld (pc' := 78) i191_77 rfl rfl ?_
            refine e_get (w := .ref 405) (pc' := 81) i191_78 rfl (x_isC (by decide) hw.1 sh397) (x_fvR (by decide +kernel) (hw.2 397 8 405 lk397_8)) ?_
            refine e_ld (pc' := 83) i191_81 rfl rfl ?_
            obtain ⟨k41, e42, g43, H⟩ := H
            refine e_al (n := k41) (w := .int (gI h 405 k41)) (pc' := 84) i191_83 rfl (x_alE (a := 20) (by decide) hw.1 sh405 (by decide) e42 g43 (by decide)) (x_clE e42 g43 (by decide)) rfl ?_
            refine e_if (pc' := 87) i191_84 rfl (fun c44 => ?_) (fun c44 => ?_)
            · have d45 : ¬ ((gI h 405 k41) = 0) := (of_decide_eq_true c44)
              replace H := H.2 d45
              refine e_inc (z := l5 + 1) (ls' := [some (.ref 397), some (.int l1), some (.int l2), some (.int l3), some (.int (b2i u)), some (.int (l5 + 1)), some (.int (nxt l1 l5)), some (.int (b2i (if r31 = 0 then (false) else (true))))]) (pc' := 104) i191_101 rfl rfl rfl rfl ?_
              refine e_go i191_104 ?_
              exact H
            · have d46 : (gI h 405 k41) = 0 := (Decidable.not_not.mp (of_decide_eq_false c44))
              replace H := H.1 d46
              refine e_ld (pc' := 88) i191_87 rfl rfl ?_
              refine e_get (w := .ref 443) (pc' := 91) i191_88 rfl (x_isC (by decide) hw.1 sh397) (x_fvR (by decide +kernel) (hw.2 397 50 443 lk397_50)) ?_
              refine e_ld (pc' := 93) i191_91 rfl rfl ?_
              refine e_al (n := k41) (w := .int (gI h 443 k41)) (pc' := 94) i191_93 rfl (x_alE (a := 20) (by decide) hw.1 sh443 (by decide) e42 g43 (by decide)) (x_clE e42 g43 (by decide)) rfl ?_
              refine e_ld (pc' := 95) i191_94 rfl rfl ?_
              refine e_ic (pc' := 98) i191_95 rfl (fun c47 => ?_) (fun c47 => ?_)
              · have d48 : ¬ ((gI h 443 k41) = l3) := (of_decide_eq_true c47)
                replace H := H.2 d48
                refine e_inc (z := l5 + 1) (ls' := [some (.ref 397), some (.int l1), some (.int l2), some (.int l3), some (.int (b2i u)), some (.int (l5 + 1)), some (.int (nxt l1 l5)), some (.int (b2i (if r31 = 0 then (false) else (true))))]) (pc' := 104) i191_101 rfl rfl rfl rfl ?_
                refine e_go i191_104 ?_
                exact H
              · have d49 : (gI h 443 k41) = l3 := (Decidable.not_not.mp (of_decide_eq_false c47))
                replace H := H.1 d49
                refine e_ld (pc' := 100) i191_98 rfl rfl ?_
                refine e_rt i191_100 rfl ?_
                exact H
          · have d50 : l3 = 0 := (Decidable.not_not.mp (of_decide_eq_false c39))
            replace H := H.1 d50
            refine e_ld (pc' := 56) i191_54 rfl rfl ?_
            refine e_ld (pc' := 57) i191_56 rfl rfl ?_
            refine e_ic (pc' := 60) i191_57 rfl (fun c51 => ?_) (fun c51 => ?_)
            · have d52 : ¬ ((nxt l1 l5) = l2) := (of_decide_eq_true c51)
              replace H := H.2 d52
              refine e_inc (z := l5 + 1) (ls' := [some (.ref 397), some (.int l1), some (.int l2), some (.int l3), some (.int (b2i u)), some (.int (l5 + 1)), some (.int (nxt l1 l5)), some (.int (b2i (if r31 = 0 then (false) else (true))))]) (pc' := 104) i191_101 rfl rfl rfl rfl ?_
              refine e_go i191_104 ?_
              exact H
            · have d53 : (nxt l1 l5) = l2 := (Decidable.not_not.mp (of_decide_eq_false c51))
              replace H := H.1 d53
              refine e_ld (pc' := 61) i191_60 rfl rfl ?_
              refine e_ld (pc' := 62) i191_61 rfl rfl ?_
              refine e_ld (pc' := 64) i191_62 rfl rfl ?_
              refine e_cn (pc' := 65) i191_64 rfl ?_
              refine e_ib (z := l5 + 2) (pc' := 66) i191_65 rfl rfl ?_
              refine e_cn (pc' := 67) i191_66 rfl ?_
              refine e_ib (z := (l5 + 2) - (l5 + 2) / 4 * 4) (pc' := 68) i191_67 rfl (x_ib_rem (by decide)) ?_
              obtain ⟨r55, s54, H⟩ := H
              refine e_cI (w := .int r55) (As := [.ref 397, .int l2, .int ((l5 + 2) - (l5 + 2) / 4 * 4)]) (rest := []) (pc' := 71) i191_68 rfl rfl rfl rfl (by show (Nat.beq (x_kd 128) 0 && x_is 397 _ (MC 128) 0) = true; rw [show x_kd 128 = 0 by decide +kernel, show MC 128 = 11 by decide +kernel, (x_isC (by decide) hw.1 sh397)]; rfl) s54 ?_
              refine e_if (pc' := 74) i191_71 rfl (fun c56 => ?_) (fun c56 => ?_)
              · have d57 : ¬ (r55 = 0) := (of_decide_eq_true c56)
                replace H := H.2 d57
                refine e_inc (z := l5 + 1) (ls' := [some (.ref 397), some (.int l1), some (.int l2), some (.int l3), some (.int (b2i u)), some (.int (l5 + 1)), some (.int (nxt l1 l5)), some (.int (b2i (if r31 = 0 then (false) else (true))))]) (pc' := 104) i191_101 rfl rfl rfl rfl ?_
                refine e_go i191_104 ?_
                exact H
              · have d58 : r55 = 0 := (Decidable.not_not.mp (of_decide_eq_false c56))
                replace H := H.1 d58
                refine e_go i191_74 ?_
                refine e_ld (pc' := 100) i191_98 rfl rfl ?_
                refine e_rt i191_100 rfl ?_
                exact H
-- FloorTurnModel.lay(II)I
set_option maxHeartbeats 8000000 in
set_option maxRecDepth 100000 in
theorem v192 {L : Nat} {xs : Nat → Int32} {Q : Option Value → Hp → Prop} {h : Hp} {x : Int32} {y : Int32} (hw : HW h) 
  (H : (((x_isCell x) = true) → ((((x_isCell y) = true) → (∃ (r12 : Int32) (h10 : Hp), Sp L xs 189 [.ref 397, .int x, .int y] h (some (.int r12)) h10 ∧ ((r12 = (-1)) → (∃ (r24 : Int32) (h22 : Hp), Sp L xs 124 [.ref 397, .int (-6)] h10 (some (.int r24)) h22 ∧ Q (some (.int r24)) h22)) ∧ (¬ (r12 = (-1)) → (((r12 = 0) → (WP L xs 192 66 [some (.ref 397), some (.int x), some (.int y), some (.int r12), some (.int x), some (.int (r12 - 1)), none] [] h10 Q)) ∧ (¬ (r12 = 0) → (∃ (r19 : Int32), Sp L xs 191 [.ref 397, .int x, .int y, .int r12, .int 1] h10 (some (.int r19)) h10 ∧ WP L xs 192 66 [some (.ref 397), some (.int x), some (.int y), some (.int r12), some (.int (nxt x r19)), some (.int (r12 - 1)), none] [] h10 Q)))))) ∧ (¬ ((x_isCell y) = true) → (∃ (r29 : Int32) (h27 : Hp), Sp L xs 124 [.ref 397, .int (-1)] h (some (.int r29)) h27 ∧ Q (some (.int r29)) h27)))) ∧ (¬ ((x_isCell x) = true) → (∃ (r5 : Int32) (h3 : Hp), Sp L xs 124 [.ref 397, .int (-1)] h (some (.int r5)) h3 ∧ Q (some (.int r5)) h3))) : ∃ r h', Sp L xs 192 [.ref 397, .int x, .int y] h r h' ∧ Q r h' := by
  refine sp_ex (ls := [some (.ref 397), some (.int x), some (.int y), none, none, none, none]) rfl ?_
  refine e_ld (pc' := 1) i192_0 rfl rfl ?_
  refine e_cI (w := .int (b2i (x_isCell x))) (As := [.int x]) (rest := []) (pc' := 4) i192_1 rfl rfl rfl rfl rfl m125 ?_
  refine e_b0 (pc' := 7) i192_4 rfl (fun c1 => ?_) (fun c1 => ?_)
  · have d2 : ¬ ((x_isCell x) = true) := (show ¬ (x_isCell x) = true by rw [c1]; decide)
    replace H := H.2 d2
    refine e_ld (pc' := 15) i192_14 rfl rfl ?_
    refine e_cn (pc' := 16) i192_15 rfl ?_
    obtain ⟨r5, h3, s4, H⟩ := H
    have w7q := HW_sp (show x_okm 124 = true by rfl) s4 hw
    have w7 : HW h3 := w7q.1
    refine e_cI (w := .int r5) (As := [.ref 397, .int (-1)]) (rest := []) (pc' := 19) i192_16 rfl rfl rfl rfl (by show (Nat.beq (x_kd 124) 0 && x_is 397 _ (MC 124) 0) = true; rw [show x_kd 124 = 0 by decide +kernel, show MC 124 = 11 by decide +kernel, (x_isC (by decide) hw.1 sh397)]; rfl) s4 ?_
    refine e_rt i192_19 rfl ?_
    exact H
  · have d7 : (x_isCell x) = true := c1
    replace H := H.1 d7
    refine e_ld (pc' := 8) i192_7 rfl rfl ?_
    refine e_cI (w := .int (b2i (x_isCell y))) (As := [.int y]) (rest := []) (pc' := 11) i192_8 rfl rfl rfl rfl rfl m125 ?_
    refine e_b1 (pc' := 14) i192_11 rfl (fun c8 => ?_) (fun c8 => ?_)
    · have d9 : (x_isCell y) = true := c8
      replace H := H.1 d9
      refine e_ld (pc' := 21) i192_20 rfl rfl ?_
      refine e_ld (pc' := 22) i192_21 rfl rfl ?_
      refine e_ld (pc' := 23) i192_22 rfl rfl ?_
      obtain ⟨r12, h10, s11, H⟩ := H
      have w14q := HW_sp (show x_okm 189 = true by rfl) s11 hw
      have w14 : HW h10 := w14q.1
      refine e_cI (w := .int r12) (As := [.ref 397, .int x, .int y]) (rest := []) (pc' := 26) i192_23 rfl rfl rfl rfl (by show (Nat.beq (x_kd 189) 0 && x_is 397 _ (MC 189) 0) = true; rw [show x_kd 189 = 0 by decide +kernel, show MC 189 = 11 by decide +kernel, (x_isC (by decide) hw.1 sh397)]; rfl) s11 ?_
      refine e_st (ls' := [some (.ref 397), some (.int x), some (.int y), some (.int r12), none, none, none]) (pc' := 27) i192_26 rfl rfl rfl ?_
      refine e_ld (pc' := 28) i192_27 rfl rfl ?_
      refine e_cn (pc' := 29) i192_28 rfl ?_
      refine e_ic (pc' := 32) i192_29 rfl (fun c14 => ?_) (fun c14 => ?_)
      · have d15 : ¬ (r12 = (-1)) := (of_decide_eq_true c14)
        replace H := H.2 d15
        refine e_ld (pc' := 40) i192_39 rfl rfl ?_
        refine e_if (pc' := 43) i192_40 rfl (fun c16 => ?_) (fun c16 => ?_)
        · have d17 : ¬ (r12 = 0) := (of_decide_eq_true c16)
          replace H := H.2 d17
          refine e_ld (pc' := 48) i192_47 rfl rfl ?_
          refine e_ld (pc' := 49) i192_48 rfl rfl ?_
          refine e_ld (pc' := 50) i192_49 rfl rfl ?_
          refine e_ld (pc' := 51) i192_50 rfl rfl ?_
          refine e_ld (pc' := 52) i192_51 rfl rfl ?_
          refine e_cn (pc' := 53) i192_52 rfl ?_
          obtain ⟨r19, s18, H⟩ := H
          refine e_cI (w := .int r19) (As := [.ref 397, .int x, .int y, .int r12, .int 1]) (rest := [.int x]) (pc' := 56) i192_53 rfl rfl rfl rfl (by show (Nat.beq (x_kd 191) 0 && x_is 397 _ (MC 191) 0) = true; rw [show x_kd 191 = 0 by decide +kernel, show MC 191 = 11 by decide +kernel, (x_isC (by decide) w14.1 sh397)]; rfl) s18 ?_
          refine e_cI (w := .int (nxt x r19)) (As := [.int x, .int r19]) (rest := []) (pc' := 59) i192_56 rfl rfl rfl rfl rfl m127 ?_
          refine e_st (ls' := [some (.ref 397), some (.int x), some (.int y), some (.int r12), some (.int (nxt x r19)), none, none]) (pc' := 61) i192_59 rfl rfl rfl ?_
          refine e_ld (pc' := 62) i192_61 rfl rfl ?_
          refine e_cn (pc' := 63) i192_62 rfl ?_
          refine e_ib (z := r12 - 1) (pc' := 64) i192_63 rfl rfl ?_
          refine e_st (ls' := [some (.ref 397), some (.int x), some (.int y), some (.int r12), some (.int (nxt x r19)), some (.int (r12 - 1)), none]) (pc' := 66) i192_64 rfl rfl rfl ?_
          exact H
        · have d20 : r12 = 0 := (Decidable.not_not.mp (of_decide_eq_false c16))
          replace H := H.1 d20
          refine e_ld (pc' := 44) i192_43 rfl rfl ?_
          refine e_go i192_44 ?_
          refine e_st (ls' := [some (.ref 397), some (.int x), some (.int y), some (.int r12), some (.int x), none, none]) (pc' := 61) i192_59 rfl rfl rfl ?_
          refine e_ld (pc' := 62) i192_61 rfl rfl ?_
          refine e_cn (pc' := 63) i192_62 rfl ?_
          refine e_ib (z := r12 - 1) (pc' := 64) i192_63 rfl rfl ?_
          refine e_st (ls' := [some (.ref 397), some (.int x), some (.int y), some (.int r12), some (.int x), some (.int (r12 - 1)), none]) (pc' := 66) i192_64 rfl rfl rfl ?_
          exact H
      · have d21 : r12 = (-1) := (Decidable.not_not.mp (of_decide_eq_false c14))
        replace H := H.1 d21
        refine e_ld (pc' := 33) i192_32 rfl rfl ?_
        refine e_cn (pc' := 35) i192_33 rfl ?_
        obtain ⟨r24, h22, s23, H⟩ := H
        have w27q := HW_sp (show x_okm 124 = true by rfl) s23 w14
        have w27 : HW h22 := w27q.1
        refine e_cI (w := .int r24) (As := [.ref 397, .int (-6)]) (rest := []) (pc' := 38) i192_35 rfl rfl rfl rfl (by show (Nat.beq (x_kd 124) 0 && x_is 397 _ (MC 124) 0) = true; rw [show x_kd 124 = 0 by decide +kernel, show MC 124 = 11 by decide +kernel, (x_isC (by decide) w14.1 sh397)]; rfl) s23 ?_
        refine e_rt i192_38 rfl ?_
        exact H
    · have d26 : ¬ ((x_isCell y) = true) := (show ¬ (x_isCell y) = true by rw [c8]; decide)
      replace H := H.2 d26
      refine e_ld (pc' := 15) i192_14 rfl rfl ?_
      refine e_cn (pc' := 16) i192_15 rfl ?_
      obtain ⟨r29, h27, s28, H⟩ := H
      have w31q := HW_sp (show x_okm 124 = true by rfl) s28 hw
      have w31 : HW h27 := w31q.1
      refine e_cI (w := .int r29) (As := [.ref 397, .int (-1)]) (rest := []) (pc' := 19) i192_16 rfl rfl rfl rfl (by show (Nat.beq (x_kd 124) 0 && x_is 397 _ (MC 124) 0) = true; rw [show x_kd 124 = 0 by decide +kernel, show MC 124 = 11 by decide +kernel, (x_isC (by decide) hw.1 sh397)]; rfl) s28 ?_
      refine e_rt i192_19 rfl ?_
      exact H
set_option maxHeartbeats 8000000 in
set_option maxRecDepth 100000 in
theorem v192_66 {L : Nat} {xs : Nat → Int32} {Q : Option Value → Hp → Prop} {h : Hp} {z1 : Option Value} {l2 : Int32} {l3 : Int32} {l4 : Int32} {l5 : Int32} {z6 : Option Value} (hw : HW h) 
  (H : ((l5 < 0) → (Q (some (.int l3)) h)) ∧ (¬ (l5 < 0) → (∃ (r5 : Int32), Sp L xs 191 [.ref 397, .int l4, .int l2, .int l5, .int 0] h (some (.int r5)) h ∧ ∃ (h6 : Hp), Sp L xs 133 [.ref 397, .int l4, .int 1, .int r5, .int 0, .int 0] h none h6 ∧ WP L xs 192 66 [some (.ref 397), z1, some (.int l2), some (.int l3), some (.int (nxt l4 r5)), some (.int (l5 + (-1))), some (.int r5)] [] h6 Q))) : WP L xs 192 66 [some (.ref 397), z1, some (.int l2), some (.int l3), some (.int l4), some (.int l5), z6] [] h Q := by
  refine e_ld (pc' := 68) i192_66 rfl rfl ?_
  refine e_if (pc' := 71) i192_68 rfl (fun c1 => ?_) (fun c1 => ?_)
  · have d2 : l5 < 0 := (of_decide_eq_true c1)
    replace H := H.1 d2
    refine e_ld (pc' := 110) i192_109 rfl rfl ?_
    refine e_rt i192_110 rfl ?_
    exact H
  · have d3 : ¬ (l5 < 0) := (of_decide_eq_false c1)
    replace H := H.2 d3
    refine e_ld (pc' := 72) i192_71 rfl rfl ?_
    refine e_ld (pc' := 74) i192_72 rfl rfl ?_
    refine e_ld (pc' := 75) i192_74 rfl rfl ?_
    refine e_ld (pc' := 77) i192_75 rfl rfl ?_
    refine e_cn (pc' := 78) i192_77 rfl ?_
    obtain ⟨r5, s4, H⟩ := H
    refine e_cI (w := .int r5) (As := [.ref 397, .int l4, .int l2, .int l5, .int 0]) (rest := []) (pc' := 81) i192_78 rfl rfl rfl rfl (by show (Nat.beq (x_kd 191) 0 && x_is 397 _ (MC 191) 0) = true; rw [show x_kd 191 = 0 by decide +kernel, show MC 191 = 11 by decide +kernel, (x_isC (by decide) hw.1 sh397)]; rfl) s4 ?_
    refine e_st (ls' := [some (.ref 397), z1, some (.int l2), some (.int l3), some (.int l4), some (.int l5), some (.int r5)]) (pc' := 83) i192_81 rfl rfl rfl ?_
    refine e_ld (pc' := 84) i192_83 rfl rfl ?_
    refine e_ld (pc' := 86) i192_84 rfl rfl ?_
    refine e_cn (pc' := 87) i192_86 rfl ?_
    refine e_ld (pc' := 89) i192_87 rfl rfl ?_
    refine e_cn (pc' := 90) i192_89 rfl ?_
    refine e_cn (pc' := 91) i192_90 rfl ?_
    obtain ⟨h6, s7, H⟩ := H
    have w9q := HW_sp (show x_okm 133 = true by rfl) s7 hw
    have w9 : HW h6 := w9q.1
    refine e_cV (As := [.ref 397, .int l4, .int 1, .int r5, .int 0, .int 0]) (rest := []) (pc' := 94) i192_91 rfl rfl rfl rfl (by show (Nat.beq (x_kd 133) 0 && x_is 397 _ (MC 133) 0) = true; rw [show x_kd 133 = 0 by decide +kernel, show MC 133 = 11 by decide +kernel, (x_isC (by decide) hw.1 sh397)]; rfl) s7 ?_
    refine e_ld (pc' := 96) i192_94 rfl rfl ?_
    refine e_ld (pc' := 98) i192_96 rfl rfl ?_
    refine e_cI (w := .int (nxt l4 r5)) (As := [.int l4, .int r5]) (rest := []) (pc' := 101) i192_98 rfl rfl rfl rfl rfl m127 ?_
    refine e_st (ls' := [some (.ref 397), z1, some (.int l2), some (.int l3), some (.int (nxt l4 r5)), some (.int l5), some (.int r5)]) (pc' := 103) i192_101 rfl rfl rfl ?_
    refine e_inc (z := l5 + (-1)) (ls' := [some (.ref 397), z1, some (.int l2), some (.int l3), some (.int (nxt l4 r5)), some (.int (l5 + (-1))), some (.int r5)]) (pc' := 106) i192_103 rfl rfl rfl rfl ?_
    refine e_go i192_106 ?_
    exact H
-- FloorTurnModel.items()I
set_option maxHeartbeats 8000000 in
set_option maxRecDepth 100000 in
theorem v193 {L : Nat} {xs : Nat → Int32} {Q : Option Value → Hp → Prop} {h : Hp}  (hw : HW h) 
  (H : WP L xs 193 4 [some (.ref 397), some (.int 0), some (.int 0)] [] h Q) : ∃ r h', Sp L xs 193 [.ref 397] h r h' ∧ Q r h' := by
  refine sp_ex (ls := [some (.ref 397), none, none]) rfl ?_
  refine e_cn (pc' := 1) i193_0 rfl ?_
  refine e_st (ls' := [some (.ref 397), some (.int 0), none]) (pc' := 2) i193_1 rfl rfl rfl ?_
  refine e_cn (pc' := 3) i193_2 rfl ?_
  refine e_st (ls' := [some (.ref 397), some (.int 0), some (.int 0)]) (pc' := 4) i193_3 rfl rfl rfl ?_
  exact H
set_option maxHeartbeats 8000000 in
set_option maxRecDepth 100000 in
theorem v193_4 {L : Nat} {xs : Nat → Int32} {Q : Option Value → Hp → Prop} {h : Hp} {l1 : Int32} {l2 : Int32} (hw : HW h) 
  (H : ((144 ≤ l2) → (Q (some (.int l1)) h)) ∧ (¬ (144 ≤ l2) → (∃ k4 : Nat, l2 = nI k4 ∧ k4 < 144 ∧ (((gI h 405 k4) = 6) → (∃ k17 : Nat, (2 * l2) = nI k17 ∧ k17 < 864 ∧ ∃ k20 : Nat, ((2 * l2) + 1) = nI k20 ∧ k20 < 864 ∧ WP L xs 193 4 [some (.ref 397), some (.int (l1 + (((gI h 414 k4) + (gI h 417 k17)) + (gI h 417 k20)))), some (.int (l2 + 1))] [] h Q)) ∧ (¬ ((gI h 405 k4) = 6) → ((((gI h 405 k4) = 0) → (WP L xs 193 4 [some (.ref 397), some (.int l1), some (.int (l2 + 1))] [] h Q)) ∧ (¬ ((gI h 405 k4) = 0) → (WP L xs 193 4 [some (.ref 397), some (.int (l1 + (b2i (if (gI h 412 k4) = 0 then (false) else (true))))), some (.int (l2 + 1))] [] h Q))))))) : WP L xs 193 4 [some (.ref 397), some (.int l1), some (.int l2)] [] h Q := by
  refine e_ld (pc' := 5) i193_4 rfl rfl ?_
  refine e_cn (pc' := 8) i193_5 rfl ?_
  refine e_ic (pc' := 11) i193_8 rfl (fun c1 => ?_) (fun c1 => ?_)
  · have d2 : 144 ≤ l2 := (of_decide_eq_true c1)
    replace H := H.1 d2
    refine e_ld (pc' := 87) i193_86 rfl rfl ?_
    refine e_rt i193_87 rfl ?_
    exact H
  · have d3 : ¬ (144 ≤ l2) := (of_decide_eq_false c1)
    replace H := H.2 d3
    refine e_ld (pc' := 12) i193_11 rfl rfl ?_
    refine e_get (w := .ref 405) (pc' := 15) i193_12 rfl (x_isC (by decide) hw.1 sh397) (x_fvR (by decide +kernel) (hw.2 397 8 405 lk397_8)) ?_
    refine e_ld (pc' := 16) i193_15 rfl rfl ?_
    obtain ⟨k4, e5, g6, H⟩ := H
    refine e_al (n := k4) (w := .int (gI h 405 k4)) (pc' := 17) i193_16 rfl (x_alE (a := 20) (by decide) hw.1 sh405 (by decide) e5 g6 (by decide)) (x_clE e5 g6 (by decide)) rfl ?_
    refine e_cn (pc' := 19) i193_17 rfl ?_
    refine e_ic (pc' := 22) i193_19 rfl (fun c7 => ?_) (fun c7 => ?_)
    · have d8 : ¬ ((gI h 405 k4) = 6) := (of_decide_eq_true c7)
      replace H := H.2 d8
      refine e_ld (pc' := 55) i193_54 rfl rfl ?_
      refine e_get (w := .ref 405) (pc' := 58) i193_55 rfl (x_isC (by decide) hw.1 sh397) (x_fvR (by decide +kernel) (hw.2 397 8 405 lk397_8)) ?_
      refine e_ld (pc' := 59) i193_58 rfl rfl ?_
      refine e_al (n := k4) (w := .int (gI h 405 k4)) (pc' := 60) i193_59 rfl (x_alE (a := 20) (by decide) hw.1 sh405 (by decide) e5 g6 (by decide)) (x_clE e5 g6 (by decide)) rfl ?_
      refine e_if (pc' := 63) i193_60 rfl (fun c9 => ?_) (fun c9 => ?_)
      · have d10 : (gI h 405 k4) = 0 := (of_decide_eq_true c9)
        replace H := H.1 d10
        refine e_inc (z := l2 + 1) (ls' := [some (.ref 397), some (.int l1), some (.int (l2 + 1))]) (pc' := 83) i193_80 rfl rfl rfl rfl ?_
        refine e_go i193_83 ?_
        exact H
      · have d11 : ¬ ((gI h 405 k4) = 0) := (of_decide_eq_false c9)
        replace H := H.2 d11
        refine e_ld (pc' := 64) i193_63 rfl rfl ?_
        refine e_ld (pc' := 65) i193_64 rfl rfl ?_
        refine e_get (w := .ref 412) (pc' := 68) i193_65 rfl (x_isC (by decide) hw.1 sh397) (x_fvR (by decide +kernel) (hw.2 397 16 412 lk397_16)) ?_
        refine e_ld (pc' := 69) i193_68 rfl rfl ?_
        refine e_al (n := k4) (w := .int (gI h 412 k4)) (pc' := 70) i193_69 rfl (x_alE (a := 20) (by decide) hw.1 sh412 (by decide) e5 (show k4 < 432 from Nat.lt_of_lt_of_le g6 (by decide)) (by decide)) (x_clE e5 (show k4 < 432 from Nat.lt_of_lt_of_le g6 (by decide)) (by decide)) rfl ?_
        refine e_reg (pc' := 78) (ls' := [some (.ref 397), some (.int l1), some (.int l2)]) (st' := [.int (b2i (if (gI h 412 k4) = 0 then (false) else (true))), .int l1]) (fun kj12 => ?_) ?_
        · skip
          refine e_if (pc' := 73) i193_70 rfl (fun c13 => ?_) (fun c13 => ?_)
          · have d14 : (gI h 412 k4) = 0 := (of_decide_eq_true c13)
            refine e_cn (pc' := 78) i193_77 rfl ?_
            exact (by simp only [if_pos d14] at kj12 ⊢; exact kj12)
          · have d15 : ¬ ((gI h 412 k4) = 0) := (of_decide_eq_false c13)
            refine e_cn (pc' := 74) i193_73 rfl ?_
            refine e_go i193_74 ?_
            exact (by simp only [if_neg d15] at kj12 ⊢; exact kj12)
        refine e_ib (z := l1 + (b2i (if (gI h 412 k4) = 0 then (false) else (true)))) (pc' := 79) i193_78 rfl rfl ?_
        refine e_st (ls' := [some (.ref 397), some (.int (l1 + (b2i (if (gI h 412 k4) = 0 then (false) else (true))))), some (.int l2)]) (pc' := 80) i193_79 rfl rfl rfl ?_
        refine e_inc (z := l2 + 1) (ls' := [some (.ref 397), some (.int (l1 + (b2i (if (gI h 412 k4) = 0 then (false) else (true))))), some (.int (l2 + 1))]) (pc' := 83) i193_80 rfl rfl rfl rfl ?_
        refine e_go i193_83 ?_
        exact H
    · have d16 : (gI h 405 k4) = 6 := (Decidable.not_not.mp (of_decide_eq_false c7))
      replace H := H.1 d16
      refine e_ld (pc' := 23) i193_22 rfl rfl ?_
      refine e_ld (pc' := 24) i193_23 rfl rfl ?_
      refine e_get (w := .ref 414) (pc' := 27) i193_24 rfl (x_isC (by decide) hw.1 sh397) (x_fvR (by decide +kernel) (hw.2 397 18 414 lk397_18)) ?_
      refine e_ld (pc' := 28) i193_27 rfl rfl ?_
      refine e_al (n := k4) (w := .int (gI h 414 k4)) (pc' := 29) i193_28 rfl (x_alE (a := 20) (by decide) hw.1 sh414 (by decide) e5 (show k4 < 432 from Nat.lt_of_lt_of_le g6 (by decide)) (by decide)) (x_clE e5 (show k4 < 432 from Nat.lt_of_lt_of_le g6 (by decide)) (by decide)) rfl ?_
      refine e_ld (pc' := 30) i193_29 rfl rfl ?_
      refine e_get (w := .ref 417) (pc' := 33) i193_30 rfl (x_isC (by decide) hw.1 sh397) (x_fvR (by decide +kernel) (hw.2 397 21 417 lk397_21)) ?_
      refine e_cn (pc' := 34) i193_33 rfl ?_
      refine e_ld (pc' := 35) i193_34 rfl rfl ?_
      refine e_ib (z := 2 * l2) (pc' := 36) i193_35 rfl rfl ?_
      obtain ⟨k17, e18, g19, H⟩ := H
      refine e_al (n := k17) (w := .int (gI h 417 k17)) (pc' := 37) i193_36 rfl (x_alE (a := 20) (by decide) hw.1 sh417 (by decide) e18 g19 (by decide)) (x_clE e18 g19 (by decide)) rfl ?_
      refine e_ib (z := (gI h 414 k4) + (gI h 417 k17)) (pc' := 38) i193_37 rfl rfl ?_
      refine e_ld (pc' := 39) i193_38 rfl rfl ?_
      refine e_get (w := .ref 417) (pc' := 42) i193_39 rfl (x_isC (by decide) hw.1 sh397) (x_fvR (by decide +kernel) (hw.2 397 21 417 lk397_21)) ?_
      refine e_cn (pc' := 43) i193_42 rfl ?_
      refine e_ld (pc' := 44) i193_43 rfl rfl ?_
      refine e_ib (z := 2 * l2) (pc' := 45) i193_44 rfl rfl ?_
      refine e_cn (pc' := 46) i193_45 rfl ?_
      refine e_ib (z := (2 * l2) + 1) (pc' := 47) i193_46 rfl rfl ?_
      obtain ⟨k20, e21, g22, H⟩ := H
      refine e_al (n := k20) (w := .int (gI h 417 k20)) (pc' := 48) i193_47 rfl (x_alE (a := 20) (by decide) hw.1 sh417 (by decide) e21 g22 (by decide)) (x_clE e21 g22 (by decide)) rfl ?_
      refine e_ib (z := ((gI h 414 k4) + (gI h 417 k17)) + (gI h 417 k20)) (pc' := 49) i193_48 rfl rfl ?_
      refine e_ib (z := l1 + (((gI h 414 k4) + (gI h 417 k17)) + (gI h 417 k20))) (pc' := 50) i193_49 rfl rfl ?_
      refine e_st (ls' := [some (.ref 397), some (.int (l1 + (((gI h 414 k4) + (gI h 417 k17)) + (gI h 417 k20)))), some (.int l2)]) (pc' := 51) i193_50 rfl rfl rfl ?_
      refine e_go i193_51 ?_
      refine e_inc (z := l2 + 1) (ls' := [some (.ref 397), some (.int (l1 + (((gI h 414 k4) + (gI h 417 k17)) + (gI h 417 k20)))), some (.int (l2 + 1))]) (pc' := 83) i193_80 rfl rfl rfl rfl ?_
      refine e_go i193_83 ?_
      exact H
-- FloorTurnModel.status(I)I
set_option maxHeartbeats 8000000 in
set_option maxRecDepth 100000 in
theorem v194 {L : Nat} {xs : Nat → Int32} {Q : Option Value → Hp → Prop} {h : Hp} {x : Int32} (hw : HW h) 
  (H : ((x = 0) → (WP L xs 194 38 [some (.ref 397), some (.int x), some (.int 0), some (.int 0)] [] h Q)) ∧ (¬ (x = 0) → (((x = 1) → (Q (some (.int (gI h 397 1))) h)) ∧ (¬ (x = 1) → (((x = 2) → (Q (some (.int (gI h 397 14))) h)) ∧ (¬ (x = 2) → (((x = 3) → (∃ (r6 : Int32), Sp L xs 193 [.ref 397] h (some (.int r6)) h ∧ Q (some (.int r6)) h)) ∧ (¬ (x = 3) → (((x = 4) → (WP L xs 194 87 [some (.ref 397), some (.int x), some (.int 0), some (.int 0)] [] h Q)) ∧ (¬ (x = 4) → ((((x_in3 x 11 17) = true) → (∃ k11 : Nat, (x - 10) = nI k11 ∧ k11 < 8 ∧ Q (some (.int (gI h 398 k11))) h)) ∧ (¬ ((x_in3 x 11 17) = true) → (Q (some (.int (-1))) h))))))))))))) : ∃ r h', Sp L xs 194 [.ref 397, .int x] h r h' ∧ Q r h' := by
  refine sp_ex (ls := [some (.ref 397), some (.int x), none, none]) rfl ?_
  refine e_cn (pc' := 1) i194_0 rfl ?_
  refine e_st (ls' := [some (.ref 397), some (.int x), some (.int 0), none]) (pc' := 2) i194_1 rfl rfl rfl ?_
  refine e_ld (pc' := 3) i194_2 rfl rfl ?_
  by_cases c1 : x = 0
  · replace H := H.1 c1
    refine e_tab (pc' := 36) i194_3 (by rw [c1]; rfl) ?_
    refine e_cn (pc' := 37) i194_36 rfl ?_
    refine e_st (ls' := [some (.ref 397), some (.int x), some (.int 0), some (.int 0)]) (pc' := 38) i194_37 rfl rfl rfl ?_
    exact H
  · replace H := H.2 c1
    by_cases c2 : x = 1
    · replace H := H.1 c2
      refine e_tab (pc' := 70) i194_3 (by rw [c2]; rfl) ?_
      refine e_ld (pc' := 71) i194_70 rfl rfl ?_
      refine e_get (w := .int (gI h 397 1)) (pc' := 74) i194_71 rfl (x_isC (by decide) hw.1 sh397) rfl ?_
      refine e_rt i194_74 rfl ?_
      exact H
    · replace H := H.2 c2
      by_cases c3 : x = 2
      · replace H := H.1 c3
        refine e_tab (pc' := 75) i194_3 (by rw [c3]; rfl) ?_
        refine e_ld (pc' := 76) i194_75 rfl rfl ?_
        refine e_get (w := .int (gI h 397 14)) (pc' := 79) i194_76 rfl (x_isC (by decide) hw.1 sh397) rfl ?_
        refine e_rt i194_79 rfl ?_
        exact H
      · replace H := H.2 c3
        by_cases c4 : x = 3
        · replace H := H.1 c4
          refine e_tab (pc' := 80) i194_3 (by rw [c4]; rfl) ?_
          refine e_ld (pc' := 81) i194_80 rfl rfl ?_
          obtain ⟨r6, s5, H⟩ := H
          refine e_cI (w := .int r6) (As := [.ref 397]) (rest := []) (pc' := 84) i194_81 rfl rfl rfl rfl (by show (Nat.beq (x_kd 193) 0 && x_is 397 _ (MC 193) 0) = true; rw [show x_kd 193 = 0 by decide +kernel, show MC 193 = 11 by decide +kernel, (x_isC (by decide) hw.1 sh397)]; rfl) s5 ?_
          refine e_rt i194_84 rfl ?_
          exact H
        · replace H := H.2 c4
          by_cases c7 : x = 4
          · replace H := H.1 c7
            refine e_tab (pc' := 85) i194_3 (by rw [c7]; rfl) ?_
            refine e_cn (pc' := 86) i194_85 rfl ?_
            refine e_st (ls' := [some (.ref 397), some (.int x), some (.int 0), some (.int 0)]) (pc' := 87) i194_86 rfl rfl rfl ?_
            exact H
          · replace H := H.2 c7
            refine e_tab (pc' := 110) i194_3 (x_tgt_out (by decide) (fun k (hk : k < 5) => by rcases (show k = 0 ∨ k = 1 ∨ k = 2 ∨ k = 3 ∨ k = 4 by omega) with rfl | rfl | rfl | rfl | rfl <;> assumption)) ?_
            refine e_ld (pc' := 111) i194_110 rfl rfl ?_
            refine e_cn (pc' := 113) i194_111 rfl ?_
            refine e_cn (pc' := 115) i194_113 rfl ?_
            refine e_cI (w := .int (b2i (x_in3 x 11 17))) (As := [.int x, .int 11, .int 17]) (rest := []) (pc' := 118) i194_115 rfl rfl rfl rfl rfl m123 ?_
            refine e_b0 (pc' := 121) i194_118 rfl (fun c8 => ?_) (fun c8 => ?_)
            · have d9 : ¬ ((x_in3 x 11 17) = true) := (show ¬ (x_in3 x 11 17) = true by rw [c8]; decide)
              replace H := H.2 d9
              refine e_cn (pc' := 134) i194_133 rfl ?_
              refine e_rt i194_134 rfl ?_
              exact H
            · have d10 : (x_in3 x 11 17) = true := c8
              replace H := H.1 d10
              refine e_ld (pc' := 122) i194_121 rfl rfl ?_
              refine e_get (w := .ref 398) (pc' := 125) i194_122 rfl (x_isC (by decide) hw.1 sh397) (x_fvR (by decide +kernel) (hw.2 397 0 398 lk397_0)) ?_
              refine e_ld (pc' := 126) i194_125 rfl rfl ?_
              refine e_cn (pc' := 128) i194_126 rfl ?_
              refine e_ib (z := x - 10) (pc' := 129) i194_128 rfl rfl ?_
              obtain ⟨k11, e12, g13, H⟩ := H
              refine e_al (n := k11) (w := .int (gI h 398 k11)) (pc' := 130) i194_129 rfl (x_alE (a := 20) (by decide) hw.1 sh398 (by decide) e12 g13 (by decide)) (x_clE e12 g13 (by decide)) rfl ?_
              refine e_go i194_130 ?_
              refine e_rt i194_134 rfl ?_
              exact H
set_option maxHeartbeats 8000000 in
set_option maxRecDepth 100000 in
theorem v194_38 {L : Nat} {xs : Nat → Int32} {Q : Option Value → Hp → Prop} {h : Hp} {z1 : Option Value} {l2 : Int32} {l3 : Int32} (hw : HW h)  (z1_z : x_wide (some z1) = false)
  (H : ((144 ≤ l3) → (Q (some (.int l2)) h)) ∧ (¬ (144 ≤ l3) → (∃ k4 : Nat, l3 = nI k4 ∧ k4 < 144 ∧ WP L xs 194 38 [some (.ref 397), z1, some (.int (l2 + (b2i (if (gI h 405 k4) = 0 then (false) else (true))))), some (.int (l3 + 1))] [] h Q))) : WP L xs 194 38 [some (.ref 397), z1, some (.int l2), some (.int l3)] [] h Q := by
  refine e_ld (pc' := 39) i194_38 rfl rfl ?_
  refine e_cn (pc' := 42) i194_39 rfl ?_
  refine e_ic (pc' := 45) i194_42 rfl (fun c1 => ?_) (fun c1 => ?_)
  · have d2 : 144 ≤ l3 := (of_decide_eq_true c1)
    replace H := H.1 d2
    refine e_ld (pc' := 69) i194_68 rfl rfl ?_
    refine e_rt i194_69 rfl ?_
    exact H
  · have d3 : ¬ (144 ≤ l3) := (of_decide_eq_false c1)
    replace H := H.2 d3
    refine e_ld (pc' := 46) i194_45 rfl rfl ?_
    refine e_ld (pc' := 47) i194_46 rfl rfl ?_
    refine e_get (w := .ref 405) (pc' := 50) i194_47 rfl (x_isC (by decide) hw.1 sh397) (x_fvR (by decide +kernel) (hw.2 397 8 405 lk397_8)) ?_
    refine e_ld (pc' := 51) i194_50 rfl rfl ?_
    obtain ⟨k4, e5, g6, H⟩ := H
    refine e_al (n := k4) (w := .int (gI h 405 k4)) (pc' := 52) i194_51 rfl (x_alE (a := 20) (by decide) hw.1 sh405 (by decide) e5 g6 (by decide)) (x_clE e5 g6 (by decide)) rfl ?_
    refine e_reg (pc' := 60) (ls' := [some (.ref 397), z1, some (.int l2), some (.int l3)]) (st' := [.int (b2i (if (gI h 405 k4) = 0 then (false) else (true))), .int l2]) (fun kj7 => ?_) ?_
    · skip
      refine e_if (pc' := 55) i194_52 rfl (fun c8 => ?_) (fun c8 => ?_)
      · have d9 : (gI h 405 k4) = 0 := (of_decide_eq_true c8)
        refine e_cn (pc' := 60) i194_59 rfl ?_
        exact (by simp only [if_pos d9] at kj7 ⊢; exact kj7)
      · have d10 : ¬ ((gI h 405 k4) = 0) := (of_decide_eq_false c8)
        refine e_cn (pc' := 56) i194_55 rfl ?_
        refine e_go i194_56 ?_
        exact (by simp only [if_neg d10] at kj7 ⊢; exact kj7)
    refine e_ib (z := l2 + (b2i (if (gI h 405 k4) = 0 then (false) else (true)))) (pc' := 61) i194_60 rfl rfl ?_
    refine e_st (ls' := [some (.ref 397), z1, some (.int (l2 + (b2i (if (gI h 405 k4) = 0 then (false) else (true))))), some (.int l3)]) (pc' := 62) i194_61 rfl rfl ((x_stz (a := 1) rfl z1_z rfl).trans rfl) ?_
    refine e_inc (z := l3 + 1) (ls' := [some (.ref 397), z1, some (.int (l2 + (b2i (if (gI h 405 k4) = 0 then (false) else (true))))), some (.int (l3 + 1))]) (pc' := 65) i194_62 rfl rfl rfl rfl ?_
    refine e_go i194_65 ?_
    exact H
set_option maxHeartbeats 8000000 in
set_option maxRecDepth 100000 in
theorem v194_87 {L : Nat} {xs : Nat → Int32} {Q : Option Value → Hp → Prop} {h : Hp} {z1 : Option Value} {l2 : Int32} {l3 : Int32} (hw : HW h)  (z1_z : x_wide (some z1) = false)
  (H : ((20 < l3) → (Q (some (.int l2)) h)) ∧ (¬ (20 < l3) → (∃ k4 : Nat, l3 = nI k4 ∧ k4 < 21 ∧ WP L xs 194 87 [some (.ref 397), z1, some (.int (l2 + (gI h 411 k4))), some (.int (l3 + 1))] [] h Q))) : WP L xs 194 87 [some (.ref 397), z1, some (.int l2), some (.int l3)] [] h Q := by
  refine e_ld (pc' := 88) i194_87 rfl rfl ?_
  refine e_cn (pc' := 90) i194_88 rfl ?_
  refine e_ic (pc' := 93) i194_90 rfl (fun c1 => ?_) (fun c1 => ?_)
  · have d2 : 20 < l3 := (of_decide_eq_true c1)
    replace H := H.1 d2
    refine e_ld (pc' := 109) i194_108 rfl rfl ?_
    refine e_rt i194_109 rfl ?_
    exact H
  · have d3 : ¬ (20 < l3) := (of_decide_eq_false c1)
    replace H := H.2 d3
    refine e_ld (pc' := 94) i194_93 rfl rfl ?_
    refine e_ld (pc' := 95) i194_94 rfl rfl ?_
    refine e_get (w := .ref 411) (pc' := 98) i194_95 rfl (x_isC (by decide) hw.1 sh397) (x_fvR (by decide +kernel) (hw.2 397 15 411 lk397_15)) ?_
    refine e_ld (pc' := 99) i194_98 rfl rfl ?_
    obtain ⟨k4, e5, g6, H⟩ := H
    refine e_al (n := k4) (w := .int (gI h 411 k4)) (pc' := 100) i194_99 rfl (x_alE (a := 20) (by decide) hw.1 sh411 (by decide) e5 g6 (by decide)) (x_clE e5 g6 (by decide)) rfl ?_
    refine e_ib (z := l2 + (gI h 411 k4)) (pc' := 101) i194_100 rfl rfl ?_
    refine e_st (ls' := [some (.ref 397), z1, some (.int (l2 + (gI h 411 k4))), some (.int l3)]) (pc' := 102) i194_101 rfl rfl ((x_stz (a := 1) rfl z1_z rfl).trans rfl) ?_
    refine e_inc (z := l3 + 1) (ls' := [some (.ref 397), z1, some (.int (l2 + (gI h 411 k4))), some (.int (l3 + 1))]) (pc' := 105) i194_102 rfl rfl rfl rfl ?_
    refine e_go i194_105 ?_
    exact H
-- java/util/Arrays.fill([JJ)V
set_option maxHeartbeats 8000000 in
set_option maxRecDepth 100000 in
theorem v198 {L : Nat} {xs : Nat → Int32} {Q : Option Value → Hp → Prop} {h : Hp} {a : Nat} {n : Nat} {y : Int64} (hw : HW h) (ha : a < 444) (hsa : SH a = (21, n)) (hna : n < 100000)
  (H : WP L xs 198 6 [some (.ref a), some (.long y), none, some (.int 0), some (.int (nI n))] [] h Q) : ∃ r h', Sp L xs 198 [.ref a, .long y] h r h' ∧ Q r h' := by
  refine sp_ex (ls := [some (.ref a), some (.long y), none, none, none]) rfl ?_
  refine e_cn (pc' := 1) i198_0 rfl ?_
  refine e_st (ls' := [some (.ref a), some (.long y), none, some (.int 0), none]) (pc' := 2) i198_1 rfl rfl rfl ?_
  refine e_ld (pc' := 3) i198_2 rfl rfl ?_
  refine e_len (x := nI n) (pc' := 4) i198_3 rfl (x_lenN ha hw.1 hsa (by decide)) (by rw [hsa]; rfl) ?_
  refine e_st (ls' := [some (.ref a), some (.long y), none, some (.int 0), some (.int (nI n))]) (pc' := 6) i198_4 rfl rfl rfl ?_
  exact H
set_option maxHeartbeats 8000000 in
set_option maxRecDepth 100000 in
theorem v198_6 {L : Nat} {xs : Nat → Int32} {Q : Option Value → Hp → Prop} {h : Hp} {a : Nat} {n : Nat} {l1 : Int64} {l3 : Int32} {l4 : Int32} (hw : HW h) (ha : a < 444) (hsa : SH a = (21, n)) (hna : n < 100000)
  (H : ((l4 ≤ l3) → (Q none h)) ∧ (¬ (l4 ≤ l3) → (∃ k4 : Nat, l3 = nI k4 ∧ k4 < n ∧ WP L xs 198 6 [some (.ref a), some (.long l1), none, some (.int (l3 + 1)), some (.int l4)] [] (sL h a k4 l1) Q))) : WP L xs 198 6 [some (.ref a), some (.long l1), none, some (.int l3), some (.int l4)] [] h Q := by
  refine e_ld (pc' := 7) i198_6 rfl rfl ?_
  refine e_ld (pc' := 9) i198_7 rfl rfl ?_
  refine e_ic (pc' := 12) i198_9 rfl (fun c1 => ?_) (fun c1 => ?_)
  · have d2 : l4 ≤ l3 := (of_decide_eq_true c1)
    replace H := H.1 d2
    refine e_rt i198_22 rfl ?_
    exact H
  · have d3 : ¬ (l4 ≤ l3) := (of_decide_eq_false c1)
    replace H := H.2 d3
    refine e_ld (pc' := 13) i198_12 rfl rfl ?_
    refine e_ld (pc' := 14) i198_13 rfl rfl ?_
    refine e_ld (pc' := 15) i198_14 rfl rfl ?_
    obtain ⟨k4, e5, g6, H⟩ := H
    refine e_as (n := k4) (h' := sL h a k4 l1) (pc' := 16) i198_15 rfl (x_alN (a := 21) ha hw.1 hsa (by decide) hna e5 g6) (x_clE e5 g6 (Nat.lt_trans hna (by decide))) (by rw [(show (SH a).1 = 21 by rw [hsa])]; rfl) ?_
    have w8 : HW (sL h a k4 l1) := HW_sL hw
    refine e_inc (z := l3 + 1) (ls' := [some (.ref a), some (.long l1), none, some (.int (l3 + 1)), some (.int l4)]) (pc' := 19) i198_16 rfl rfl rfl rfl ?_
    refine e_go i198_19 ?_
    exact H
-- java/util/Arrays.fill([II)V
set_option maxHeartbeats 8000000 in
set_option maxRecDepth 100000 in
theorem v199 {L : Nat} {xs : Nat → Int32} {Q : Option Value → Hp → Prop} {h : Hp} {a : Nat} {n : Nat} {y : Int32} (hw : HW h) (ha : a < 444) (hsa : SH a = (20, n)) (hna : n < 100000)
  (H : WP L xs 199 5 [some (.ref a), some (.int y), some (.int 0), some (.int (nI n))] [] h Q) : ∃ r h', Sp L xs 199 [.ref a, .int y] h r h' ∧ Q r h' := by
  refine sp_ex (ls := [some (.ref a), some (.int y), none, none]) rfl ?_
  refine e_cn (pc' := 1) i199_0 rfl ?_
  refine e_st (ls' := [some (.ref a), some (.int y), some (.int 0), none]) (pc' := 2) i199_1 rfl rfl rfl ?_
  refine e_ld (pc' := 3) i199_2 rfl rfl ?_
  refine e_len (x := nI n) (pc' := 4) i199_3 rfl (x_lenN ha hw.1 hsa (by decide)) (by rw [hsa]; rfl) ?_
  refine e_st (ls' := [some (.ref a), some (.int y), some (.int 0), some (.int (nI n))]) (pc' := 5) i199_4 rfl rfl rfl ?_
  exact H
set_option maxHeartbeats 8000000 in
set_option maxRecDepth 100000 in
theorem v199_5 {L : Nat} {xs : Nat → Int32} {Q : Option Value → Hp → Prop} {h : Hp} {a : Nat} {n : Nat} {l1 : Int32} {l2 : Int32} {l3 : Int32} (hw : HW h) (ha : a < 444) (hsa : SH a = (20, n)) (hna : n < 100000)
  (H : ((l3 ≤ l2) → (Q none h)) ∧ (¬ (l3 ≤ l2) → (∃ k4 : Nat, l2 = nI k4 ∧ k4 < n ∧ WP L xs 199 5 [some (.ref a), some (.int l1), some (.int (l2 + 1)), some (.int l3)] [] (sI h a k4 l1) Q))) : WP L xs 199 5 [some (.ref a), some (.int l1), some (.int l2), some (.int l3)] [] h Q := by
  refine e_ld (pc' := 6) i199_5 rfl rfl ?_
  refine e_ld (pc' := 7) i199_6 rfl rfl ?_
  refine e_ic (pc' := 10) i199_7 rfl (fun c1 => ?_) (fun c1 => ?_)
  · have d2 : l3 ≤ l2 := (of_decide_eq_true c1)
    replace H := H.1 d2
    refine e_rt i199_20 rfl ?_
    exact H
  · have d3 : ¬ (l3 ≤ l2) := (of_decide_eq_false c1)
    replace H := H.2 d3
    refine e_ld (pc' := 11) i199_10 rfl rfl ?_
    refine e_ld (pc' := 12) i199_11 rfl rfl ?_
    refine e_ld (pc' := 13) i199_12 rfl rfl ?_
    obtain ⟨k4, e5, g6, H⟩ := H
    refine e_as (n := k4) (h' := sI h a k4 l1) (pc' := 14) i199_13 rfl (x_alN (a := 20) ha hw.1 hsa (by decide) hna e5 g6) (x_clE e5 g6 (Nat.lt_trans hna (by decide))) (by rw [(show (SH a).1 = 20 by rw [hsa])]; rfl) ?_
    have w8 : HW (sI h a k4 l1) := HW_sI hw
    refine e_inc (z := l2 + 1) (ls' := [some (.ref a), some (.int l1), some (.int (l2 + 1)), some (.int l3)]) (pc' := 17) i199_14 rfl rfl rfl rfl ?_
    refine e_go i199_17 ?_
    exact H
