/-! Conditions of methods (made by wip/whole/vcmake.py). -/
-- FloorTurn$Router.measure(LFloorTurn$Floor;I)V
set_option maxHeartbeats 8000000 in
set_option maxRecDepth 100000 in
theorem v70 {L : Nat} {xs : Nat → Int32} {Q : Option Value → Hp → Prop} {h : Hp} {y : Int32} (hw : HW h) 
  (H : ∃ (h1 : Hp), Sp L xs 199 [.ref 391, .int 0] h none h1 ∧ WP L xs 70 15 [some (.ref 390), some (.ref 4), some (.int y), some (.int 0), none, none] [] (sI h1 390 2 0) Q) : ∃ r h', Sp L xs 70 [.ref 390, .ref 4, .int y] h r h' ∧ Q r h' := by
  refine sp_ex (ls := [some (.ref 390), some (.ref 4), some (.int y), none, none, none]) rfl ?_
  refine e_ld (pc' := 1) i70_0 rfl rfl ?_
  refine e_get (w := .ref 391) (pc' := 4) i70_1 rfl (x_isC (by decide) hw.1 sh390) (x_fvR (by decide +kernel) (hw.2 390 0 391 lk390_0)) ?_
  refine e_cn (pc' := 5) i70_4 rfl ?_
  obtain ⟨h1, s2, H⟩ := H
  have w4q := HW_sp (show x_okm 199 = true by rfl) s2 hw
  have w4 : HW h1 := w4q.1
  refine e_cV (As := [.ref 391, .int 0]) (rest := []) (pc' := 8) i70_5 rfl rfl rfl rfl rfl s2 ?_
  refine e_ld (pc' := 9) i70_8 rfl rfl ?_
  refine e_cn (pc' := 10) i70_9 rfl ?_
  refine e_put (h' := sI h1 390 2 0) (pc' := 13) i70_10 rfl (x_isC (by decide) w4.1 sh390) rfl ?_
  have w6 : HW (sI h1 390 2 0) := HW_sI w4
  refine e_cn (pc' := 14) i70_13 rfl ?_
  refine e_st (ls' := [some (.ref 390), some (.ref 4), some (.int y), some (.int 0), none, none]) (pc' := 15) i70_14 rfl rfl rfl ?_
  exact H
set_option maxHeartbeats 8000000 in
set_option maxRecDepth 100000 in
theorem v70_15 {L : Nat} {xs : Nat → Int32} {Q : Option Value → Hp → Prop} {h : Hp} {l2 : Int32} {l3 : Int32} {z4 : Option Value} {z5 : Option Value} (hw : HW h) 
  (H : ((4 ≤ l3) → (WP L xs 70 52 [some (.ref 390), some (.ref 4), some (.int l2), some (.int 0), z4, z5] [] h Q)) ∧ (¬ (4 ≤ l3) → (∃ k4 : Nat, l2 = nI k4 ∧ k4 < 144 ∧ ∃ (r8 : Int32), Sp L xs 29 [.ref (10 + k4), .int l3] h (some (.int r8)) h ∧ ((r8 = 0) → (∃ (h12 : Hp), Sp L xs 71 [.ref 390, .ref 4, .int (nbr l2 l3), .int 1] h none h12 ∧ WP L xs 70 15 [some (.ref 390), some (.ref 4), some (.int l2), some (.int (l3 + 1)), z4, z5] [] h12 Q)) ∧ (¬ (r8 = 0) → (WP L xs 70 15 [some (.ref 390), some (.ref 4), some (.int l2), some (.int (l3 + 1)), z4, z5] [] h Q))))) : WP L xs 70 15 [some (.ref 390), some (.ref 4), some (.int l2), some (.int l3), z4, z5] [] h Q := by
  refine e_ld (pc' := 16) i70_15 rfl rfl ?_
  refine e_cn (pc' := 17) i70_16 rfl ?_
  refine e_ic (pc' := 20) i70_17 rfl (fun c1 => ?_) (fun c1 => ?_)
  · have d2 : 4 ≤ l3 := (of_decide_eq_true c1)
    replace H := H.1 d2
    refine e_cn (pc' := 51) i70_50 rfl ?_
    refine e_st (ls' := [some (.ref 390), some (.ref 4), some (.int l2), some (.int 0), z4, z5]) (pc' := 52) i70_51 rfl rfl rfl ?_
    exact H
  · have d3 : ¬ (4 ≤ l3) := (of_decide_eq_false c1)
    replace H := H.2 d3
    refine e_ld (pc' := 21) i70_20 rfl rfl ?_
    refine e_get (w := .ref 5) (pc' := 24) i70_21 rfl (x_isC (by decide) hw.1 sh4) (x_fvR (by decide +kernel) (hw.2 4 1 5 lk4_1)) ?_
    refine e_ld (pc' := 25) i70_24 rfl rfl ?_
    obtain ⟨k4, e5, g6, H⟩ := H
    refine e_al (n := k4) (w := .ref (10 + k4)) (pc' := 26) i70_25 rfl (x_alE (a := 23) (by decide) hw.1 sh5 (by decide) e5 g6 (by decide)) (x_clE e5 g6 (by decide)) (x_agR (hw.2 _ _ _ (LK_p4 g6))) ?_
    refine e_ld (pc' := 27) i70_26 rfl rfl ?_
    obtain ⟨r8, s7, H⟩ := H
    refine e_cI (w := .int r8) (As := [.ref (10 + k4), .int l3]) (rest := []) (pc' := 30) i70_27 rfl rfl rfl rfl (by show (Nat.beq (x_kd 29) 0 && x_is (10 + k4) _ (MC 29) 0) = true; rw [show x_kd 29 = 0 by decide +kernel, show MC 29 = 3 by decide +kernel, (x_isP (PT_4 g6) hw.1)]; rfl) s7 ?_
    refine e_if (pc' := 33) i70_30 rfl (fun c9 => ?_) (fun c9 => ?_)
    · have d10 : ¬ (r8 = 0) := (of_decide_eq_true c9)
      replace H := H.2 d10
      refine e_inc (z := l3 + 1) (ls' := [some (.ref 390), some (.ref 4), some (.int l2), some (.int (l3 + 1)), z4, z5]) (pc' := 47) i70_44 rfl rfl rfl rfl ?_
      refine e_go i70_47 ?_
      exact H
    · have d11 : r8 = 0 := (Decidable.not_not.mp (of_decide_eq_false c9))
      replace H := H.1 d11
      refine e_ld (pc' := 34) i70_33 rfl rfl ?_
      refine e_ld (pc' := 35) i70_34 rfl rfl ?_
      refine e_ld (pc' := 36) i70_35 rfl rfl ?_
      refine e_ld (pc' := 37) i70_36 rfl rfl ?_
      refine e_cI (w := .int (nbr l2 l3)) (As := [.int l2, .int l3]) (rest := [.ref 4, .ref 390]) (pc' := 40) i70_37 rfl rfl rfl rfl rfl m121 ?_
      refine e_cn (pc' := 41) i70_40 rfl ?_
      obtain ⟨h12, s13, H⟩ := H
      have w15q := HW_sp (show x_okm 71 = true by rfl) s13 hw
      have w15 : HW h12 := w15q.1
      refine e_cV (As := [.ref 390, .ref 4, .int (nbr l2 l3), .int 1]) (rest := []) (pc' := 44) i70_41 rfl rfl rfl rfl (by show (Nat.beq (x_kd 71) 0 && x_is 390 _ (MC 71) 0) = true; rw [show x_kd 71 = 0 by decide +kernel, show MC 71 = 7 by decide +kernel, (x_isC (by decide) hw.1 sh390)]; rfl) s13 ?_
      refine e_inc (z := l3 + 1) (ls' := [some (.ref 390), some (.ref 4), some (.int l2), some (.int (l3 + 1)), z4, z5]) (pc' := 47) i70_44 rfl rfl rfl rfl ?_
      refine e_go i70_47 ?_
      exact H
set_option maxHeartbeats 8000000 in
set_option maxRecDepth 100000 in
theorem v70_52 {L : Nat} {xs : Nat → Int32} {Q : Option Value → Hp → Prop} {h : Hp} {z2 : Option Value} {l3 : Int32} {z4 : Option Value} {z5 : Option Value} (hw : HW h) 
  (H : (((gI h 390 2) ≤ l3) → (Q none h)) ∧ (¬ ((gI h 390 2) ≤ l3) → (∃ k4 : Nat, l3 = nI k4 ∧ k4 < 144 ∧ WP L xs 70 71 [some (.ref 390), some (.ref 4), z2, some (.int l3), some (.int (gI h 392 k4)), some (.int 0)] [] h Q))) : WP L xs 70 52 [some (.ref 390), some (.ref 4), z2, some (.int l3), z4, z5] [] h Q := by
  refine e_ld (pc' := 53) i70_52 rfl rfl ?_
  refine e_ld (pc' := 54) i70_53 rfl rfl ?_
  refine e_get (w := .int (gI h 390 2)) (pc' := 57) i70_54 rfl (x_isC (by decide) hw.1 sh390) rfl ?_
  refine e_ic (pc' := 60) i70_57 rfl (fun c1 => ?_) (fun c1 => ?_)
  · have d2 : (gI h 390 2) ≤ l3 := (of_decide_eq_true c1)
    replace H := H.1 d2
    refine e_rt i70_110 rfl ?_
    exact H
  · have d3 : ¬ ((gI h 390 2) ≤ l3) := (of_decide_eq_false c1)
    replace H := H.2 d3
    refine e_ld (pc' := 61) i70_60 rfl rfl ?_
    refine e_get (w := .ref 392) (pc' := 64) i70_61 rfl (x_isC (by decide) hw.1 sh390) (x_fvR (by decide +kernel) (hw.2 390 1 392 lk390_1)) ?_
    refine e_ld (pc' := 65) i70_64 rfl rfl ?_
    obtain ⟨k4, e5, g6, H⟩ := H
    refine e_al (n := k4) (w := .int (gI h 392 k4)) (pc' := 66) i70_65 rfl (x_alE (a := 20) (by decide) hw.1 sh392 (by decide) e5 g6 (by decide)) (x_clE e5 g6 (by decide)) rfl ?_
    refine e_st (ls' := [some (.ref 390), some (.ref 4), z2, some (.int l3), some (.int (gI h 392 k4)), z5]) (pc' := 68) i70_66 rfl rfl rfl ?_
    refine e_cn (pc' := 69) i70_68 rfl ?_
    refine e_st (ls' := [some (.ref 390), some (.ref 4), z2, some (.int l3), some (.int (gI h 392 k4)), some (.int 0)]) (pc' := 71) i70_69 rfl rfl rfl ?_
    exact H
set_option maxHeartbeats 8000000 in
set_option maxRecDepth 100000 in
theorem v70_71 {L : Nat} {xs : Nat → Int32} {Q : Option Value → Hp → Prop} {h : Hp} {z2 : Option Value} {l3 : Int32} {l4 : Int32} {l5 : Int32} (hw : HW h)  (z2_z : x_wide (some z2) = false)
  (H : ((4 ≤ l5) → (WP L xs 70 52 [some (.ref 390), some (.ref 4), z2, some (.int (l3 + 1)), some (.int l4), some (.int l5)] [] h Q)) ∧ (¬ (4 ≤ l5) → (∃ k4 : Nat, l4 = nI k4 ∧ k4 < 144 ∧ ∃ (h7 : Hp), Sp L xs 71 [.ref 390, .ref 4, .int (nbr l4 l5), .int ((gI h 391 k4) + 1)] h none h7 ∧ WP L xs 70 71 [some (.ref 390), some (.ref 4), z2, some (.int l3), some (.int l4), some (.int (l5 + 1))] [] h7 Q))) : WP L xs 70 71 [some (.ref 390), some (.ref 4), z2, some (.int l3), some (.int l4), some (.int l5)] [] h Q := by
  refine e_ld (pc' := 73) i70_71 rfl rfl ?_
  refine e_cn (pc' := 74) i70_73 rfl ?_
  refine e_ic (pc' := 77) i70_74 rfl (fun c1 => ?_) (fun c1 => ?_)
  · have d2 : 4 ≤ l5 := (of_decide_eq_true c1)
    replace H := H.1 d2
    refine e_inc (z := l3 + 1) (ls' := [some (.ref 390), some (.ref 4), z2, some (.int (l3 + 1)), some (.int l4), some (.int l5)]) (pc' := 107) i70_104 rfl rfl rfl ((x_stz (a := 2) rfl z2_z rfl).trans rfl) ?_
    refine e_go i70_107 ?_
    exact H
  · have d3 : ¬ (4 ≤ l5) := (of_decide_eq_false c1)
    replace H := H.2 d3
    refine e_ld (pc' := 78) i70_77 rfl rfl ?_
    refine e_ld (pc' := 79) i70_78 rfl rfl ?_
    refine e_ld (pc' := 81) i70_79 rfl rfl ?_
    refine e_ld (pc' := 83) i70_81 rfl rfl ?_
    refine e_cI (w := .int (nbr l4 l5)) (As := [.int l4, .int l5]) (rest := [.ref 4, .ref 390]) (pc' := 86) i70_83 rfl rfl rfl rfl rfl m121 ?_
    refine e_ld (pc' := 87) i70_86 rfl rfl ?_
    refine e_get (w := .ref 391) (pc' := 90) i70_87 rfl (x_isC (by decide) hw.1 sh390) (x_fvR (by decide +kernel) (hw.2 390 0 391 lk390_0)) ?_
    refine e_ld (pc' := 92) i70_90 rfl rfl ?_
    obtain ⟨k4, e5, g6, H⟩ := H
    refine e_al (n := k4) (w := .int (gI h 391 k4)) (pc' := 93) i70_92 rfl (x_alE (a := 20) (by decide) hw.1 sh391 (by decide) e5 g6 (by decide)) (x_clE e5 g6 (by decide)) rfl ?_
    refine e_cn (pc' := 94) i70_93 rfl ?_
    refine e_ib (z := (gI h 391 k4) + 1) (pc' := 95) i70_94 rfl rfl ?_
    obtain ⟨h7, s8, H⟩ := H
    have w10q := HW_sp (show x_okm 71 = true by rfl) s8 hw
    have w10 : HW h7 := w10q.1
    refine e_cV (As := [.ref 390, .ref 4, .int (nbr l4 l5), .int ((gI h 391 k4) + 1)]) (rest := []) (pc' := 98) i70_95 rfl rfl rfl rfl (by show (Nat.beq (x_kd 71) 0 && x_is 390 _ (MC 71) 0) = true; rw [show x_kd 71 = 0 by decide +kernel, show MC 71 = 7 by decide +kernel, (x_isC (by decide) hw.1 sh390)]; rfl) s8 ?_
    refine e_inc (z := l5 + 1) (ls' := [some (.ref 390), some (.ref 4), z2, some (.int l3), some (.int l4), some (.int (l5 + 1))]) (pc' := 101) i70_98 rfl rfl rfl rfl ?_
    refine e_go i70_101 ?_
    exact H
-- FloorTurn$Router.reach(LFloorTurn$Floor;II)V
set_option maxHeartbeats 8000000 in
set_option maxRecDepth 100000 in
theorem v71 {L : Nat} {xs : Nat → Int32} {Q : Option Value → Hp → Prop} {h : Hp} {y : Int32} {z : Int32} (hw : HW h) 
  (H : ((y = (-1)) → (Q none h)) ∧ (¬ (y = (-1)) → (∃ k4 : Nat, y = nI k4 ∧ k4 < 144 ∧ (((gI h 391 k4) = 0) → ((((gI h (10 + k4) 0) = 0) → ((((gI h 390 2) < 144) → (∃ k16 : Nat, (gI h 390 2) = nI k16 ∧ k16 < 144 ∧ Q none (sI (sI (sI h 391 k4 z) 392 k16 y) 390 2 ((gI h 390 2) + 1)))) ∧ (¬ ((gI h 390 2) < 144) → (Q none h)))) ∧ (¬ ((gI h (10 + k4) 0) = 0) → (Q none h)))) ∧ (¬ ((gI h 391 k4) = 0) → (Q none h))))) : ∃ r h', Sp L xs 71 [.ref 390, .ref 4, .int y, .int z] h r h' ∧ Q r h' := by
  refine sp_ex (ls := [some (.ref 390), some (.ref 4), some (.int y), some (.int z)]) rfl ?_
  refine e_ld (pc' := 1) i71_0 rfl rfl ?_
  refine e_cn (pc' := 2) i71_1 rfl ?_
  refine e_ic (pc' := 5) i71_2 rfl (fun c1 => ?_) (fun c1 => ?_)
  · have d2 : y = (-1) := (of_decide_eq_true c1)
    replace H := H.1 d2
    refine e_rt i71_36 rfl ?_
    exact H
  · have d3 : ¬ (y = (-1)) := (of_decide_eq_false c1)
    replace H := H.2 d3
    refine e_ld (pc' := 6) i71_5 rfl rfl ?_
    refine e_get (w := .ref 391) (pc' := 9) i71_6 rfl (x_isC (by decide) hw.1 sh390) (x_fvR (by decide +kernel) (hw.2 390 0 391 lk390_0)) ?_
    refine e_ld (pc' := 10) i71_9 rfl rfl ?_
    obtain ⟨k4, e5, g6, H⟩ := H
    refine e_al (n := k4) (w := .int (gI h 391 k4)) (pc' := 11) i71_10 rfl (x_alE (a := 20) (by decide) hw.1 sh391 (by decide) e5 g6 (by decide)) (x_clE e5 g6 (by decide)) rfl ?_
    refine e_if (pc' := 14) i71_11 rfl (fun c7 => ?_) (fun c7 => ?_)
    · have d8 : ¬ ((gI h 391 k4) = 0) := (of_decide_eq_true c7)
      replace H := H.2 d8
      refine e_rt i71_36 rfl ?_
      exact H
    · have d9 : (gI h 391 k4) = 0 := (Decidable.not_not.mp (of_decide_eq_false c7))
      replace H := H.1 d9
      refine e_ld (pc' := 15) i71_14 rfl rfl ?_
      refine e_get (w := .ref 5) (pc' := 18) i71_15 rfl (x_isC (by decide) hw.1 sh4) (x_fvR (by decide +kernel) (hw.2 4 1 5 lk4_1)) ?_
      refine e_ld (pc' := 19) i71_18 rfl rfl ?_
      refine e_al (n := k4) (w := .ref (10 + k4)) (pc' := 20) i71_19 rfl (x_alE (a := 23) (by decide) hw.1 sh5 (by decide) e5 g6 (by decide)) (x_clE e5 g6 (by decide)) (x_agR (hw.2 _ _ _ (LK_p4 g6))) ?_
      refine e_get (w := .int (gI h (10 + k4) 0)) (pc' := 23) i71_20 rfl (x_isP (PT_4 g6) hw.1) rfl ?_
      refine e_if (pc' := 26) i71_23 rfl (fun c10 => ?_) (fun c10 => ?_)
      · have d11 : ¬ ((gI h (10 + k4) 0) = 0) := (of_decide_eq_true c10)
        replace H := H.2 d11
        refine e_rt i71_36 rfl ?_
        exact H
      · have d12 : (gI h (10 + k4) 0) = 0 := (Decidable.not_not.mp (of_decide_eq_false c10))
        replace H := H.1 d12
        refine e_ld (pc' := 27) i71_26 rfl rfl ?_
        refine e_get (w := .int (gI h 390 2)) (pc' := 30) i71_27 rfl (x_isC (by decide) hw.1 sh390) rfl ?_
        refine e_cn (pc' := 33) i71_30 rfl ?_
        refine e_ic (pc' := 36) i71_33 rfl (fun c13 => ?_) (fun c13 => ?_)
        · have d14 : (gI h 390 2) < 144 := (of_decide_eq_true c13)
          replace H := H.1 d14
          refine e_ld (pc' := 38) i71_37 rfl rfl ?_
          refine e_get (w := .ref 391) (pc' := 41) i71_38 rfl (x_isC (by decide) hw.1 sh390) (x_fvR (by decide +kernel) (hw.2 390 0 391 lk390_0)) ?_
          refine e_ld (pc' := 42) i71_41 rfl rfl ?_
          refine e_ld (pc' := 43) i71_42 rfl rfl ?_
          refine e_as (n := k4) (h' := sI h 391 k4 z) (pc' := 44) i71_43 rfl (x_alE (a := 20) (by decide) hw.1 sh391 (by decide) e5 g6 (by decide)) (x_clE e5 g6 (by decide)) (by rw [(show (SH 391).1 = 20 by rw [sh391])]; rfl) ?_
          have w16 : HW (sI h 391 k4 z) := HW_sI hw
          refine e_ld (pc' := 45) i71_44 rfl rfl ?_
          refine e_get (w := .ref 392) (pc' := 48) i71_45 rfl (x_isC (by decide) w16.1 sh390) (x_fvR (by decide +kernel) (w16.2 390 1 392 lk390_1)) ?_
          refine e_ld (pc' := 49) i71_48 rfl rfl ?_
          refine e_get (w := .int (gI h 390 2)) (pc' := 52) i71_49 rfl (x_isC (by decide) w16.1 sh390) (congrArg Value.int (gI_osI (by decide))) ?_
          refine e_ld (pc' := 53) i71_52 rfl rfl ?_
          obtain ⟨k16, e17, g18, H⟩ := H
          refine e_as (n := k16) (h' := sI (sI h 391 k4 z) 392 k16 y) (pc' := 54) i71_53 rfl (x_alE (a := 20) (by decide) w16.1 sh392 (by decide) e17 g18 (by decide)) (x_clE e17 g18 (by decide)) (by rw [(show (SH 392).1 = 20 by rw [sh392])]; rfl) ?_
          have w21 : HW (sI (sI h 391 k4 z) 392 k16 y) := HW_sI w16
          refine e_ld (pc' := 55) i71_54 rfl rfl ?_
          refine e_stk (pc' := 56) i71_55 rfl rfl ?_
          refine e_get (w := .int (gI h 390 2)) (pc' := 59) i71_56 rfl (x_isC (by decide) w21.1 sh390) (congrArg Value.int (Eq.trans (gI_osI (by decide)) (gI_osI (by decide)))) ?_
          refine e_cn (pc' := 60) i71_59 rfl ?_
          refine e_ib (z := (gI h 390 2) + 1) (pc' := 61) i71_60 rfl rfl ?_
          refine e_put (h' := sI (sI (sI h 391 k4 z) 392 k16 y) 390 2 ((gI h 390 2) + 1)) (pc' := 64) i71_61 rfl (x_isC (by decide) w21.1 sh390) rfl ?_
          have w23 : HW (sI (sI (sI h 391 k4 z) 392 k16 y) 390 2 ((gI h 390 2) + 1)) := HW_sI w21
          refine e_rt i71_64 rfl ?_
          exact H
        · have d21 : ¬ ((gI h 390 2) < 144) := (of_decide_eq_false c13)
          replace H := H.2 d21
          refine e_rt i71_36 rfl ?_
          exact H
-- FloorTurn$Router.buildWay(LFloorTurn$Floor;III)V
set_option maxHeartbeats 8000000 in
set_option maxRecDepth 100000 in
theorem v72 {L : Nat} {xs : Nat → Int32} {Q : Option Value → Hp → Prop} {h : Hp} {y : Int32} {z : Int32} {u : Int32} (hw : HW h) 
  (H : ∃ (r2 : Int32), Sp L xs 73 [.ref 390, .ref 4, .int y, .int u] h (some (.int r2)) h ∧ WP L xs 72 14 [some (.ref 390), some (.ref 4), some (.int y), some (.int z), some (.int u), some (.int r2), some (.int u), none] [] h Q) : ∃ r h', Sp L xs 72 [.ref 390, .ref 4, .int y, .int z, .int u] h r h' ∧ Q r h' := by
  refine sp_ex (ls := [some (.ref 390), some (.ref 4), some (.int y), some (.int z), some (.int u), none, none, none]) rfl ?_
  refine e_ld (pc' := 1) i72_0 rfl rfl ?_
  refine e_ld (pc' := 2) i72_1 rfl rfl ?_
  refine e_ld (pc' := 3) i72_2 rfl rfl ?_
  refine e_ld (pc' := 5) i72_3 rfl rfl ?_
  obtain ⟨r2, s1, H⟩ := H
  refine e_cI (w := .int r2) (As := [.ref 390, .ref 4, .int y, .int u]) (rest := []) (pc' := 8) i72_5 rfl rfl rfl rfl (by show (Nat.beq (x_kd 73) 0 && x_is 390 _ (MC 73) 0) = true; rw [show x_kd 73 = 0 by decide +kernel, show MC 73 = 7 by decide +kernel, (x_isC (by decide) hw.1 sh390)]; rfl) s1 ?_
  refine e_st (ls' := [some (.ref 390), some (.ref 4), some (.int y), some (.int z), some (.int u), some (.int r2), none, none]) (pc' := 10) i72_8 rfl rfl rfl ?_
  refine e_ld (pc' := 12) i72_10 rfl rfl ?_
  refine e_st (ls' := [some (.ref 390), some (.ref 4), some (.int y), some (.int z), some (.int u), some (.int r2), some (.int u), none]) (pc' := 14) i72_12 rfl rfl rfl ?_
  exact H
set_option maxHeartbeats 8000000 in
set_option maxRecDepth 100000 in
theorem v72_14 {L : Nat} {xs : Nat → Int32} {Q : Option Value → Hp → Prop} {h : Hp} {z2 : Option Value} {l3 : Int32} {z4 : Option Value} {l5 : Int32} {l6 : Int32} {z7 : Option Value} (hw : HW h)  (z4_z : x_wide (some z4) = false)
  (H : ((l6 ≤ 0) → (Q none h)) ∧ (¬ (l6 ≤ 0) → (((l5 = (-1)) → (Q none h)) ∧ (¬ (l5 = (-1)) → (((l6 = 1) → (∃ (r16 : Int32), Sp L xs 74 [.ref 390, .int l5, .int l3] h (some (.int r16)) h ∧ ∃ (h17 : Hp), Sp L xs 14 [.ref 4, .int l5, .int 1, .int r16, .int 0, .int 0] h none h17 ∧ WP L xs 72 14 [some (.ref 390), some (.ref 4), z2, some (.int l3), z4, some (.int (nbr l5 r16)), some (.int (l6 + (-1))), some (.int r16)] [] h17 Q)) ∧ (¬ (l6 = 1) → (∃ (r10 : Int32), Sp L xs 75 [.ref 390, .int l5, .int (l6 - 1)] h (some (.int r10)) h ∧ ∃ (h11 : Hp), Sp L xs 14 [.ref 4, .int l5, .int 1, .int r10, .int 0, .int 0] h none h11 ∧ WP L xs 72 14 [some (.ref 390), some (.ref 4), z2, some (.int l3), z4, some (.int (nbr l5 r10)), some (.int (l6 + (-1))), some (.int r10)] [] h11 Q))))))) : WP L xs 72 14 [some (.ref 390), some (.ref 4), z2, some (.int l3), z4, some (.int l5), some (.int l6), z7] [] h Q := by
  refine e_ld (pc' := 16) i72_14 rfl rfl ?_
  refine e_if (pc' := 19) i72_16 rfl (fun c1 => ?_) (fun c1 => ?_)
  · have d2 : l6 ≤ 0 := (of_decide_eq_true c1)
    replace H := H.1 d2
    refine e_rt i72_79 rfl ?_
    exact H
  · have d3 : ¬ (l6 ≤ 0) := (of_decide_eq_false c1)
    replace H := H.2 d3
    refine e_ld (pc' := 21) i72_19 rfl rfl ?_
    refine e_cn (pc' := 22) i72_21 rfl ?_
    refine e_ic (pc' := 25) i72_22 rfl (fun c4 => ?_) (fun c4 => ?_)
    · have d5 : l5 = (-1) := (of_decide_eq_true c4)
      replace H := H.1 d5
      refine e_rt i72_79 rfl ?_
      exact H
    · have d6 : ¬ (l5 = (-1)) := (of_decide_eq_false c4)
      replace H := H.2 d6
      refine e_ld (pc' := 27) i72_25 rfl rfl ?_
      refine e_cn (pc' := 28) i72_27 rfl ?_
      refine e_ic (pc' := 31) i72_28 rfl (fun c7 => ?_) (fun c7 => ?_)
      · have d8 : ¬ (l6 = 1) := (of_decide_eq_true c7)
        replace H := H.2 d8
        refine e_ld (pc' := 42) i72_41 rfl rfl ?_
        refine e_ld (pc' := 44) i72_42 rfl rfl ?_
        refine e_ld (pc' := 46) i72_44 rfl rfl ?_
        refine e_cn (pc' := 47) i72_46 rfl ?_
        refine e_ib (z := l6 - 1) (pc' := 48) i72_47 rfl rfl ?_
        obtain ⟨r10, s9, H⟩ := H
        refine e_cI (w := .int r10) (As := [.ref 390, .int l5, .int (l6 - 1)]) (rest := []) (pc' := 51) i72_48 rfl rfl rfl rfl (by show (Nat.beq (x_kd 75) 0 && x_is 390 _ (MC 75) 0) = true; rw [show x_kd 75 = 0 by decide +kernel, show MC 75 = 7 by decide +kernel, (x_isC (by decide) hw.1 sh390)]; rfl) s9 ?_
        refine e_st (ls' := [some (.ref 390), some (.ref 4), z2, some (.int l3), z4, some (.int l5), some (.int l6), some (.int r10)]) (pc' := 53) i72_51 rfl rfl rfl ?_
        refine e_ld (pc' := 54) i72_53 rfl rfl ?_
        refine e_ld (pc' := 56) i72_54 rfl rfl ?_
        refine e_cn (pc' := 57) i72_56 rfl ?_
        refine e_ld (pc' := 59) i72_57 rfl rfl ?_
        refine e_cn (pc' := 60) i72_59 rfl ?_
        refine e_cn (pc' := 61) i72_60 rfl ?_
        obtain ⟨h11, s12, H⟩ := H
        have w14q := HW_sp (show x_okm 14 = true by rfl) s12 hw
        have w14 : HW h11 := w14q.1
        refine e_cV (As := [.ref 4, .int l5, .int 1, .int r10, .int 0, .int 0]) (rest := []) (pc' := 64) i72_61 rfl rfl rfl rfl (by show (Nat.beq (x_kd 14) 0 && x_is 4 _ (MC 14) 0) = true; rw [show x_kd 14 = 0 by decide +kernel, show MC 14 = 2 by decide +kernel, (x_isC (by decide) hw.1 sh4)]; rfl) s12 ?_
        refine e_ld (pc' := 66) i72_64 rfl rfl ?_
        refine e_ld (pc' := 68) i72_66 rfl rfl ?_
        refine e_cI (w := .int (nbr l5 r10)) (As := [.int l5, .int r10]) (rest := []) (pc' := 71) i72_68 rfl rfl rfl rfl rfl m121 ?_
        refine e_st (ls' := [some (.ref 390), some (.ref 4), z2, some (.int l3), z4, some (.int (nbr l5 r10)), some (.int l6), some (.int r10)]) (pc' := 73) i72_71 rfl rfl ((x_stz (a := 4) rfl z4_z rfl).trans rfl) ?_
        refine e_inc (z := l6 + (-1)) (ls' := [some (.ref 390), some (.ref 4), z2, some (.int l3), z4, some (.int (nbr l5 r10)), some (.int (l6 + (-1))), some (.int r10)]) (pc' := 76) i72_73 rfl rfl rfl rfl ?_
        refine e_go i72_76 ?_
        exact H
      · have d14 : l6 = 1 := (Decidable.not_not.mp (of_decide_eq_false c7))
        replace H := H.1 d14
        refine e_ld (pc' := 32) i72_31 rfl rfl ?_
        refine e_ld (pc' := 34) i72_32 rfl rfl ?_
        refine e_ld (pc' := 35) i72_34 rfl rfl ?_
        obtain ⟨r16, s15, H⟩ := H
        refine e_cI (w := .int r16) (As := [.ref 390, .int l5, .int l3]) (rest := []) (pc' := 38) i72_35 rfl rfl rfl rfl (by show (Nat.beq (x_kd 74) 0 && x_is 390 _ (MC 74) 0) = true; rw [show x_kd 74 = 0 by decide +kernel, show MC 74 = 7 by decide +kernel, (x_isC (by decide) hw.1 sh390)]; rfl) s15 ?_
        refine e_go i72_38 ?_
        refine e_st (ls' := [some (.ref 390), some (.ref 4), z2, some (.int l3), z4, some (.int l5), some (.int l6), some (.int r16)]) (pc' := 53) i72_51 rfl rfl rfl ?_
        refine e_ld (pc' := 54) i72_53 rfl rfl ?_
        refine e_ld (pc' := 56) i72_54 rfl rfl ?_
        refine e_cn (pc' := 57) i72_56 rfl ?_
        refine e_ld (pc' := 59) i72_57 rfl rfl ?_
        refine e_cn (pc' := 60) i72_59 rfl ?_
        refine e_cn (pc' := 61) i72_60 rfl ?_
        obtain ⟨h17, s18, H⟩ := H
        have w20q := HW_sp (show x_okm 14 = true by rfl) s18 hw
        have w20 : HW h17 := w20q.1
        refine e_cV (As := [.ref 4, .int l5, .int 1, .int r16, .int 0, .int 0]) (rest := []) (pc' := 64) i72_61 rfl rfl rfl rfl (by show (Nat.beq (x_kd 14) 0 && x_is 4 _ (MC 14) 0) = true; rw [show x_kd 14 = 0 by decide +kernel, show MC 14 = 2 by decide +kernel, (x_isC (by decide) hw.1 sh4)]; rfl) s18 ?_
        refine e_ld (pc' := 66) i72_64 rfl rfl ?_
        refine e_ld (pc' := 68) i72_66 rfl rfl ?_
        refine e_cI (w := .int (nbr l5 r16)) (As := [.int l5, .int r16]) (rest := []) (pc' := 71) i72_68 rfl rfl rfl rfl rfl m121 ?_
        refine e_st (ls' := [some (.ref 390), some (.ref 4), z2, some (.int l3), z4, some (.int (nbr l5 r16)), some (.int l6), some (.int r16)]) (pc' := 73) i72_71 rfl rfl ((x_stz (a := 4) rfl z4_z rfl).trans rfl) ?_
        refine e_inc (z := l6 + (-1)) (ls' := [some (.ref 390), some (.ref 4), z2, some (.int l3), z4, some (.int (nbr l5 r16)), some (.int (l6 + (-1))), some (.int r16)]) (pc' := 76) i72_73 rfl rfl rfl rfl ?_
        refine e_go i72_76 ?_
        exact H
-- FloorTurn$Router.firstOfWay(LFloorTurn$Floor;II)I
set_option maxHeartbeats 8000000 in
set_option maxRecDepth 100000 in
theorem v73 {L : Nat} {xs : Nat → Int32} {Q : Option Value → Hp → Prop} {h : Hp} {y : Int32} {z : Int32} (hw : HW h) 
  (H : WP L xs 73 3 [some (.ref 390), some (.ref 4), some (.int y), some (.int z), some (.int 0)] [] h Q) : ∃ r h', Sp L xs 73 [.ref 390, .ref 4, .int y, .int z] h r h' ∧ Q r h' := by
  refine sp_ex (ls := [some (.ref 390), some (.ref 4), some (.int y), some (.int z), none]) rfl ?_
  refine e_cn (pc' := 1) i73_0 rfl ?_
  refine e_st (ls' := [some (.ref 390), some (.ref 4), some (.int y), some (.int z), some (.int 0)]) (pc' := 3) i73_1 rfl rfl rfl ?_
  exact H
set_option maxHeartbeats 8000000 in
set_option maxRecDepth 100000 in
theorem v73_3 {L : Nat} {xs : Nat → Int32} {Q : Option Value → Hp → Prop} {h : Hp} {l2 : Int32} {l3 : Int32} {l4 : Int32} (hw : HW h) 
  (H : ((4 ≤ l4) → (Q (some (.int (-1))) h)) ∧ (¬ (4 ≤ l4) → (∃ (r5 : Int32), Sp L xs 69 [.ref 390, .ref 4, .int l2, .int l4] h (some (.int r5)) h ∧ ((r5 = l3) → (Q (some (.int (nbr l2 l4))) h)) ∧ (¬ (r5 = l3) → (WP L xs 73 3 [some (.ref 390), some (.ref 4), some (.int l2), some (.int l3), some (.int (l4 + 1))] [] h Q))))) : WP L xs 73 3 [some (.ref 390), some (.ref 4), some (.int l2), some (.int l3), some (.int l4)] [] h Q := by
  refine e_ld (pc' := 5) i73_3 rfl rfl ?_
  refine e_cn (pc' := 6) i73_5 rfl ?_
  refine e_ic (pc' := 9) i73_6 rfl (fun c1 => ?_) (fun c1 => ?_)
  · have d2 : 4 ≤ l4 := (of_decide_eq_true c1)
    replace H := H.1 d2
    refine e_cn (pc' := 35) i73_34 rfl ?_
    refine e_rt i73_35 rfl ?_
    exact H
  · have d3 : ¬ (4 ≤ l4) := (of_decide_eq_false c1)
    replace H := H.2 d3
    refine e_ld (pc' := 10) i73_9 rfl rfl ?_
    refine e_ld (pc' := 11) i73_10 rfl rfl ?_
    refine e_ld (pc' := 12) i73_11 rfl rfl ?_
    refine e_ld (pc' := 14) i73_12 rfl rfl ?_
    obtain ⟨r5, s4, H⟩ := H
    refine e_cI (w := .int r5) (As := [.ref 390, .ref 4, .int l2, .int l4]) (rest := []) (pc' := 17) i73_14 rfl rfl rfl rfl (by show (Nat.beq (x_kd 69) 0 && x_is 390 _ (MC 69) 0) = true; rw [show x_kd 69 = 0 by decide +kernel, show MC 69 = 7 by decide +kernel, (x_isC (by decide) hw.1 sh390)]; rfl) s4 ?_
    refine e_ld (pc' := 18) i73_17 rfl rfl ?_
    refine e_ic (pc' := 21) i73_18 rfl (fun c6 => ?_) (fun c6 => ?_)
    · have d7 : ¬ (r5 = l3) := (of_decide_eq_true c6)
      replace H := H.2 d7
      refine e_inc (z := l4 + 1) (ls' := [some (.ref 390), some (.ref 4), some (.int l2), some (.int l3), some (.int (l4 + 1))]) (pc' := 31) i73_28 rfl rfl rfl rfl ?_
      refine e_go i73_31 ?_
      exact H
    · have d8 : r5 = l3 := (Decidable.not_not.mp (of_decide_eq_false c6))
      replace H := H.1 d8
      refine e_ld (pc' := 22) i73_21 rfl rfl ?_
      refine e_ld (pc' := 24) i73_22 rfl rfl ?_
      refine e_cI (w := .int (nbr l2 l4)) (As := [.int l2, .int l4]) (rest := []) (pc' := 27) i73_24 rfl rfl rfl rfl rfl m121 ?_
      refine e_rt i73_27 rfl ?_
      exact H
-- FloorTurn$Router.sideTo(II)I
set_option maxHeartbeats 8000000 in
set_option maxRecDepth 100000 in
theorem v74 {L : Nat} {xs : Nat → Int32} {Q : Option Value → Hp → Prop} {h : Hp} {x : Int32} {y : Int32} (hw : HW h) 
  (H : WP L xs 74 2 [some (.ref 390), some (.int x), some (.int y), some (.int 0)] [] h Q) : ∃ r h', Sp L xs 74 [.ref 390, .int x, .int y] h r h' ∧ Q r h' := by
  refine sp_ex (ls := [some (.ref 390), some (.int x), some (.int y), none]) rfl ?_
  refine e_cn (pc' := 1) i74_0 rfl ?_
  refine e_st (ls' := [some (.ref 390), some (.int x), some (.int y), some (.int 0)]) (pc' := 2) i74_1 rfl rfl rfl ?_
  exact H
set_option maxHeartbeats 8000000 in
set_option maxRecDepth 100000 in
theorem v74_2 {L : Nat} {xs : Nat → Int32} {Q : Option Value → Hp → Prop} {h : Hp} {z0 : Option Value} {l1 : Int32} {l2 : Int32} {l3 : Int32} (hw : HW h) 
  (H : ((3 ≤ l3) → (Q (some (.int 3)) h)) ∧ (¬ (3 ≤ l3) → ((((nbr l1 l3) = l2) → (Q (some (.int l3)) h)) ∧ (¬ ((nbr l1 l3) = l2) → (WP L xs 74 2 [z0, some (.int l1), some (.int l2), some (.int (l3 + 1))] [] h Q))))) : WP L xs 74 2 [z0, some (.int l1), some (.int l2), some (.int l3)] [] h Q := by
  refine e_ld (pc' := 3) i74_2 rfl rfl ?_
  refine e_cn (pc' := 4) i74_3 rfl ?_
  refine e_ic (pc' := 7) i74_4 rfl (fun c1 => ?_) (fun c1 => ?_)
  · have d2 : 3 ≤ l3 := (of_decide_eq_true c1)
    replace H := H.1 d2
    refine e_cn (pc' := 25) i74_24 rfl ?_
    refine e_rt i74_25 rfl ?_
    exact H
  · have d3 : ¬ (3 ≤ l3) := (of_decide_eq_false c1)
    replace H := H.2 d3
    refine e_ld (pc' := 8) i74_7 rfl rfl ?_
    refine e_ld (pc' := 9) i74_8 rfl rfl ?_
    refine e_cI (w := .int (nbr l1 l3)) (As := [.int l1, .int l3]) (rest := []) (pc' := 12) i74_9 rfl rfl rfl rfl rfl m121 ?_
    refine e_ld (pc' := 13) i74_12 rfl rfl ?_
    refine e_ic (pc' := 16) i74_13 rfl (fun c4 => ?_) (fun c4 => ?_)
    · have d5 : ¬ ((nbr l1 l3) = l2) := (of_decide_eq_true c4)
      replace H := H.2 d5
      refine e_inc (z := l3 + 1) (ls' := [z0, some (.int l1), some (.int l2), some (.int (l3 + 1))]) (pc' := 21) i74_18 rfl rfl rfl rfl ?_
      refine e_go i74_21 ?_
      exact H
    · have d6 : (nbr l1 l3) = l2 := (Decidable.not_not.mp (of_decide_eq_false c4))
      replace H := H.1 d6
      refine e_ld (pc' := 17) i74_16 rfl rfl ?_
      refine e_rt i74_17 rfl ?_
      exact H
-- FloorTurn$Router.sideToward(II)I
set_option maxHeartbeats 8000000 in
set_option maxRecDepth 100000 in
theorem v75 {L : Nat} {xs : Nat → Int32} {Q : Option Value → Hp → Prop} {h : Hp} {x : Int32} {y : Int32} (hw : HW h) 
  (H : WP L xs 75 2 [some (.ref 390), some (.int x), some (.int y), some (.int 0), none] [] h Q) : ∃ r h', Sp L xs 75 [.ref 390, .int x, .int y] h r h' ∧ Q r h' := by
  refine sp_ex (ls := [some (.ref 390), some (.int x), some (.int y), none, none]) rfl ?_
  refine e_cn (pc' := 1) i75_0 rfl ?_
  refine e_st (ls' := [some (.ref 390), some (.int x), some (.int y), some (.int 0), none]) (pc' := 2) i75_1 rfl rfl rfl ?_
  exact H
set_option maxHeartbeats 8000000 in
set_option maxRecDepth 100000 in
theorem v75_2 {L : Nat} {xs : Nat → Int32} {Q : Option Value → Hp → Prop} {h : Hp} {l1 : Int32} {l2 : Int32} {l3 : Int32} {z4 : Option Value} (hw : HW h) 
  (H : ((3 ≤ l3) → (Q (some (.int 3)) h)) ∧ (¬ (3 ≤ l3) → ((((nbr l1 l3) = (-1)) → (WP L xs 75 2 [some (.ref 390), some (.int l1), some (.int l2), some (.int (l3 + 1)), some (.int (nbr l1 l3))] [] h Q)) ∧ (¬ ((nbr l1 l3) = (-1)) → (∃ k7 : Nat, (nbr l1 l3) = nI k7 ∧ k7 < 144 ∧ (((gI h 391 k7) = l2) → (Q (some (.int l3)) h)) ∧ (¬ ((gI h 391 k7) = l2) → (WP L xs 75 2 [some (.ref 390), some (.int l1), some (.int l2), some (.int (l3 + 1)), some (.int (nbr l1 l3))] [] h Q))))))) : WP L xs 75 2 [some (.ref 390), some (.int l1), some (.int l2), some (.int l3), z4] [] h Q := by
  refine e_ld (pc' := 3) i75_2 rfl rfl ?_
  refine e_cn (pc' := 4) i75_3 rfl ?_
  refine e_ic (pc' := 7) i75_4 rfl (fun c1 => ?_) (fun c1 => ?_)
  · have d2 : 3 ≤ l3 := (of_decide_eq_true c1)
    replace H := H.1 d2
    refine e_cn (pc' := 40) i75_39 rfl ?_
    refine e_rt i75_40 rfl ?_
    exact H
  · have d3 : ¬ (3 ≤ l3) := (of_decide_eq_false c1)
    replace H := H.2 d3
    refine e_ld (pc' := 8) i75_7 rfl rfl ?_
    refine e_ld (pc' := 9) i75_8 rfl rfl ?_
    refine e_cI (w := .int (nbr l1 l3)) (As := [.int l1, .int l3]) (rest := []) (pc' := 12) i75_9 rfl rfl rfl rfl rfl m121 ?_
    refine e_st (ls' := [some (.ref 390), some (.int l1), some (.int l2), some (.int l3), some (.int (nbr l1 l3))]) (pc' := 14) i75_12 rfl rfl rfl ?_
    refine e_ld (pc' := 16) i75_14 rfl rfl ?_
    refine e_cn (pc' := 17) i75_16 rfl ?_
    refine e_ic (pc' := 20) i75_17 rfl (fun c4 => ?_) (fun c4 => ?_)
    · have d5 : (nbr l1 l3) = (-1) := (of_decide_eq_true c4)
      replace H := H.1 d5
      refine e_inc (z := l3 + 1) (ls' := [some (.ref 390), some (.int l1), some (.int l2), some (.int (l3 + 1)), some (.int (nbr l1 l3))]) (pc' := 36) i75_33 rfl rfl rfl rfl ?_
      refine e_go i75_36 ?_
      exact H
    · have d6 : ¬ ((nbr l1 l3) = (-1)) := (of_decide_eq_false c4)
      replace H := H.2 d6
      refine e_ld (pc' := 21) i75_20 rfl rfl ?_
      refine e_get (w := .ref 391) (pc' := 24) i75_21 rfl (x_isC (by decide) hw.1 sh390) (x_fvR (by decide +kernel) (hw.2 390 0 391 lk390_0)) ?_
      refine e_ld (pc' := 26) i75_24 rfl rfl ?_
      obtain ⟨k7, e8, g9, H⟩ := H
      refine e_al (n := k7) (w := .int (gI h 391 k7)) (pc' := 27) i75_26 rfl (x_alE (a := 20) (by decide) hw.1 sh391 (by decide) e8 g9 (by decide)) (x_clE e8 g9 (by decide)) rfl ?_
      refine e_ld (pc' := 28) i75_27 rfl rfl ?_
      refine e_ic (pc' := 31) i75_28 rfl (fun c10 => ?_) (fun c10 => ?_)
      · have d11 : ¬ ((gI h 391 k7) = l2) := (of_decide_eq_true c10)
        replace H := H.2 d11
        refine e_inc (z := l3 + 1) (ls' := [some (.ref 390), some (.int l1), some (.int l2), some (.int (l3 + 1)), some (.int (nbr l1 l3))]) (pc' := 36) i75_33 rfl rfl rfl rfl ?_
        refine e_go i75_36 ?_
        exact H
      · have d12 : (gI h 391 k7) = l2 := (Decidable.not_not.mp (of_decide_eq_false c10))
        replace H := H.1 d12
        refine e_ld (pc' := 32) i75_31 rfl rfl ?_
        refine e_rt i75_32 rfl ?_
        exact H
-- FloorTurn$Row.renew(II)V
set_option maxHeartbeats 8000000 in
set_option maxRecDepth 100000 in
theorem v77 {L : Nat} {xs : Nat → Int32} {Q : Option Value → Hp → Prop} {h : Hp} {b : Nat} {x : Int32} {y : Int32} (hw : HW h) (hb : SB b)
  (H : ∃ (h3 : Hp), Sp L xs 198 [.ref (b + 2), .long 0] (sI (sI h (b + 1) 1 x) (b + 1) 2 y) none h3 ∧ Q none h3) : ∃ r h', Sp L xs 77 [.ref (b + 1), .int x, .int y] h r h' ∧ Q r h' := by
  refine sp_ex (ls := [some (.ref (b + 1)), some (.int x), some (.int y)]) rfl ?_
  refine e_ld (pc' := 1) i77_0 rfl rfl ?_
  refine e_ld (pc' := 2) i77_1 rfl rfl ?_
  refine e_put (h' := sI h (b + 1) 1 x) (pc' := 5) i77_2 rfl (x_isB1 hb hw.1) rfl ?_
  have w2 : HW (sI h (b + 1) 1 x) := HW_sI hw
  refine e_ld (pc' := 6) i77_5 rfl rfl ?_
  refine e_ld (pc' := 7) i77_6 rfl rfl ?_
  refine e_put (h' := sI (sI h (b + 1) 1 x) (b + 1) 2 y) (pc' := 10) i77_7 rfl (x_isB1 hb w2.1) rfl ?_
  have w4 : HW (sI (sI h (b + 1) 1 x) (b + 1) 2 y) := HW_sI w2
  refine e_ld (pc' := 11) i77_10 rfl rfl ?_
  refine e_get (w := .ref (b + 2)) (pc' := 14) i77_11 rfl (x_isB1 hb w4.1) (x_fvR (by decide +kernel) (w4.2 _ _ _ (SB_lk1_0 hb))) ?_
  refine e_cn (pc' := 15) i77_14 rfl ?_
  obtain ⟨h3, s4, H⟩ := H
  have w8q := HW_sp (show x_okm 198 = true by rfl) s4 w4
  have w8 : HW h3 := w8q.1
  refine e_cV (As := [.ref (b + 2), .long 0]) (rest := []) (pc' := 18) i77_15 rfl rfl rfl rfl rfl s4 ?_
  refine e_rt i77_18 rfl ?_
  exact H
-- FloorTurn$Row.has(II)Z
set_option maxHeartbeats 8000000 in
set_option maxRecDepth 100000 in
theorem v78 {L : Nat} {xs : Nat → Int32} {Q : Option Value → Hp → Prop} {h : Hp} {b : Nat} {x : Int32} {y : Int32} (hw : HW h) (hb : SB b)
  (H : Q (some (.int (b2i (if x < 0 then (false) else (if ((gI h (b + 1) 2) - y) < x then (false) else (true)))))) h) : ∃ r h', Sp L xs 78 [.ref (b + 1), .int x, .int y] h r h' ∧ Q r h' := by
  refine sp_ex (ls := [some (.ref (b + 1)), some (.int x), some (.int y)]) rfl ?_
  refine e_ld (pc' := 1) i78_0 rfl rfl ?_
  refine e_reg (pc' := 19) (ls' := [some (.ref (b + 1)), some (.int x), some (.int y)]) (st' := [.int (b2i (if x < 0 then (false) else (if ((gI h (b + 1) 2) - y) < x then (false) else (true))))]) (fun kj1 => ?_) ?_
  · skip
    refine e_if (pc' := 4) i78_1 rfl (fun c2 => ?_) (fun c2 => ?_)
    · have d3 : x < 0 := (of_decide_eq_true c2)
      refine e_cn (pc' := 19) i78_18 rfl ?_
      exact (by simp only [if_pos d3] at kj1 ⊢; exact kj1)
    · have d4 : ¬ (x < 0) := (of_decide_eq_false c2)
      refine e_ld (pc' := 5) i78_4 rfl rfl ?_
      refine e_ld (pc' := 6) i78_5 rfl rfl ?_
      refine e_get (w := .int (gI h (b + 1) 2)) (pc' := 9) i78_6 rfl (x_isB1 hb hw.1) rfl ?_
      refine e_ld (pc' := 10) i78_9 rfl rfl ?_
      refine e_ib (z := (gI h (b + 1) 2) - y) (pc' := 11) i78_10 rfl rfl ?_
      refine e_reg (pc' := 19) (ls' := [some (.ref (b + 1)), some (.int x), some (.int y)]) (st' := [.int (b2i (if ((gI h (b + 1) 2) - y) < x then (false) else (true)))]) (fun kj5 => ?_) ?_
      · skip
        refine e_ic (pc' := 14) i78_11 rfl (fun c6 => ?_) (fun c6 => ?_)
        · have d7 : ((gI h (b + 1) 2) - y) < x := (of_decide_eq_true c6)
          refine e_cn (pc' := 19) i78_18 rfl ?_
          exact (by simp only [if_pos d7] at kj5 ⊢; exact kj5)
        · have d8 : ¬ (((gI h (b + 1) 2) - y) < x) := (of_decide_eq_false c6)
          refine e_cn (pc' := 15) i78_14 rfl ?_
          refine e_go i78_15 ?_
          exact (by simp only [if_neg d8] at kj5 ⊢; exact kj5)
      exact (by simp only [if_neg d4] at kj1 ⊢; exact kj1)
  refine e_rt (r := some (.int (b2i (if x < 0 then (false) else (if ((gI h (b + 1) 2) - y) < x then (false) else (true)))))) i78_19 (by simp only [x_rt, show MR 78 = some .boolean by decide +kernel, b2i_01, cond_true]) ?_
  exact H
-- FloorTurn$Row.keep(IJ)V
set_option maxHeartbeats 8000000 in
set_option maxRecDepth 100000 in
theorem v79 {L : Nat} {xs : Nat → Int32} {Q : Option Value → Hp → Prop} {h : Hp} {b : Nat} {x : Int32} {y : Int64} (hw : HW h) (hb : SB b)
  (H : (((gI h (b + 1) 1) = 0) → (∃ k2 : Nat, x = nI k2 ∧ k2 < 100 ∧ Q none (sL h (b + 2) k2 y.toInt32.toInt8.toInt32.toInt64))) ∧ (¬ ((gI h (b + 1) 1) = 0) → ((((gI h (b + 1) 1) = 1) → (∃ k7 : Nat, x = nI k7 ∧ k7 < 100 ∧ Q none (sL h (b + 2) k7 y.toInt32.toInt16.toInt32.toInt64))) ∧ (¬ ((gI h (b + 1) 1) = 1) → ((((gI h (b + 1) 1) = 2) → (∃ k12 : Nat, x = nI k12 ∧ k12 < 100 ∧ Q none (sL h (b + 2) k12 y.toInt32.toInt64))) ∧ (¬ ((gI h (b + 1) 1) = 2) → (∃ k16 : Nat, x = nI k16 ∧ k16 < 100 ∧ Q none (sL h (b + 2) k16 y)))))))) : ∃ r h', Sp L xs 79 [.ref (b + 1), .int x, .long y] h r h' ∧ Q r h' := by
  refine sp_ex (ls := [some (.ref (b + 1)), some (.int x), some (.long y), none]) rfl ?_
  refine e_ld (pc' := 1) i79_0 rfl rfl ?_
  refine e_get (w := .int (gI h (b + 1) 1)) (pc' := 4) i79_1 rfl (x_isB1 hb hw.1) rfl ?_
  by_cases c1 : (gI h (b + 1) 1) = 0
  · replace H := H.1 c1
    refine e_tab (pc' := 32) i79_4 (by rw [c1]; rfl) ?_
    refine e_ld (pc' := 33) i79_32 rfl rfl ?_
    refine e_get (w := .ref (b + 2)) (pc' := 36) i79_33 rfl (x_isB1 hb hw.1) (x_fvR (by decide +kernel) (hw.2 _ _ _ (SB_lk1_0 hb))) ?_
    refine e_ld (pc' := 37) i79_36 rfl rfl ?_
    refine e_ld (pc' := 38) i79_37 rfl rfl ?_
    refine e_un (pc' := 39) i79_38 rfl rfl ?_
    refine e_un (pc' := 40) i79_39 rfl rfl ?_
    refine e_un (pc' := 41) i79_40 rfl rfl ?_
    obtain ⟨k2, e3, g4, H⟩ := H
    refine e_as (n := k2) (h' := sL h (b + 2) k2 y.toInt32.toInt8.toInt32.toInt64) (pc' := 42) i79_41 rfl (x_alE (a := 21) (SB_lt2 hb) hw.1 (SB_sh2 hb) (by decide) e3 g4 (by decide)) (x_clE e3 g4 (by decide)) (by rw [(show (SH (b + 2)).1 = 21 by rw [SB_sh2 hb])]; rfl) ?_
    have w6 : HW (sL h (b + 2) k2 y.toInt32.toInt8.toInt32.toInt64) := HW_sL hw
    refine e_go i79_42 ?_
    refine e_rt i79_77 rfl ?_
    exact H
  · replace H := H.2 c1
    by_cases c6 : (gI h (b + 1) 1) = 1
    · replace H := H.1 c6
      refine e_tab (pc' := 45) i79_4 (by rw [c6]; rfl) ?_
      refine e_ld (pc' := 46) i79_45 rfl rfl ?_
      refine e_get (w := .ref (b + 2)) (pc' := 49) i79_46 rfl (x_isB1 hb hw.1) (x_fvR (by decide +kernel) (hw.2 _ _ _ (SB_lk1_0 hb))) ?_
      refine e_ld (pc' := 50) i79_49 rfl rfl ?_
      refine e_ld (pc' := 51) i79_50 rfl rfl ?_
      refine e_un (pc' := 52) i79_51 rfl rfl ?_
      refine e_un (pc' := 53) i79_52 rfl rfl ?_
      refine e_un (pc' := 54) i79_53 rfl rfl ?_
      obtain ⟨k7, e8, g9, H⟩ := H
      refine e_as (n := k7) (h' := sL h (b + 2) k7 y.toInt32.toInt16.toInt32.toInt64) (pc' := 55) i79_54 rfl (x_alE (a := 21) (SB_lt2 hb) hw.1 (SB_sh2 hb) (by decide) e8 g9 (by decide)) (x_clE e8 g9 (by decide)) (by rw [(show (SH (b + 2)).1 = 21 by rw [SB_sh2 hb])]; rfl) ?_
      have w11 : HW (sL h (b + 2) k7 y.toInt32.toInt16.toInt32.toInt64) := HW_sL hw
      refine e_go i79_55 ?_
      refine e_rt i79_77 rfl ?_
      exact H
    · replace H := H.2 c6
      by_cases c11 : (gI h (b + 1) 1) = 2
      · replace H := H.1 c11
        refine e_tab (pc' := 58) i79_4 (by rw [c11]; rfl) ?_
        refine e_ld (pc' := 59) i79_58 rfl rfl ?_
        refine e_get (w := .ref (b + 2)) (pc' := 62) i79_59 rfl (x_isB1 hb hw.1) (x_fvR (by decide +kernel) (hw.2 _ _ _ (SB_lk1_0 hb))) ?_
        refine e_ld (pc' := 63) i79_62 rfl rfl ?_
        refine e_ld (pc' := 64) i79_63 rfl rfl ?_
        refine e_un (pc' := 65) i79_64 rfl rfl ?_
        refine e_un (pc' := 66) i79_65 rfl rfl ?_
        obtain ⟨k12, e13, g14, H⟩ := H
        refine e_as (n := k12) (h' := sL h (b + 2) k12 y.toInt32.toInt64) (pc' := 67) i79_66 rfl (x_alE (a := 21) (SB_lt2 hb) hw.1 (SB_sh2 hb) (by decide) e13 g14 (by decide)) (x_clE e13 g14 (by decide)) (by rw [(show (SH (b + 2)).1 = 21 by rw [SB_sh2 hb])]; rfl) ?_
        have w16 : HW (sL h (b + 2) k12 y.toInt32.toInt64) := HW_sL hw
        refine e_go i79_67 ?_
        refine e_rt i79_77 rfl ?_
        exact H
      · replace H := H.2 c11
        refine e_tab (pc' := 70) i79_4 (x_tgt_out (by decide) (fun k (hk : k < 3) => by rcases (show k = 0 ∨ k = 1 ∨ k = 2 by omega) with rfl | rfl | rfl <;> assumption)) ?_
        refine e_ld (pc' := 71) i79_70 rfl rfl ?_
        refine e_get (w := .ref (b + 2)) (pc' := 74) i79_71 rfl (x_isB1 hb hw.1) (x_fvR (by decide +kernel) (hw.2 _ _ _ (SB_lk1_0 hb))) ?_
        refine e_ld (pc' := 75) i79_74 rfl rfl ?_
        refine e_ld (pc' := 76) i79_75 rfl rfl ?_
        obtain ⟨k16, e17, g18, H⟩ := H
        refine e_as (n := k16) (h' := sL h (b + 2) k16 y) (pc' := 77) i79_76 rfl (x_alE (a := 21) (SB_lt2 hb) hw.1 (SB_sh2 hb) (by decide) e17 g18 (by decide)) (x_clE e17 g18 (by decide)) (by rw [(show (SH (b + 2)).1 = 21 by rw [SB_sh2 hb])]; rfl) ?_
        have w20 : HW (sL h (b + 2) k16 y) := HW_sL hw
        refine e_rt i79_77 rfl ?_
        exact H
-- FloorTurn$Row.asInt(I)I
set_option maxHeartbeats 8000000 in
set_option maxRecDepth 100000 in
theorem v80 {L : Nat} {xs : Nat → Int32} {Q : Option Value → Hp → Prop} {h : Hp} {b : Nat} {x : Int32} (hw : HW h) (hb : SB b)
  (H : ∃ k1 : Nat, x = nI k1 ∧ k1 < 100 ∧ Q (some (.int ((gL h (b + 2) k1).toInt32))) h) : ∃ r h', Sp L xs 80 [.ref (b + 1), .int x] h r h' ∧ Q r h' := by
  refine sp_ex (ls := [some (.ref (b + 1)), some (.int x)]) rfl ?_
  refine e_ld (pc' := 1) i80_0 rfl rfl ?_
  refine e_get (w := .ref (b + 2)) (pc' := 4) i80_1 rfl (x_isB1 hb hw.1) (x_fvR (by decide +kernel) (hw.2 _ _ _ (SB_lk1_0 hb))) ?_
  refine e_ld (pc' := 5) i80_4 rfl rfl ?_
  obtain ⟨k1, e2, g3, H⟩ := H
  refine e_al (n := k1) (w := .long (gL h (b + 2) k1)) (pc' := 6) i80_5 rfl (x_alE (a := 21) (SB_lt2 hb) hw.1 (SB_sh2 hb) (by decide) e2 g3 (by decide)) (x_clE e2 g3 (by decide)) rfl ?_
  refine e_un (pc' := 7) i80_6 rfl rfl ?_
  refine e_rt i80_7 rfl ?_
  exact H
-- FloorTurn$Shelf.holdRow(II)V
set_option maxHeartbeats 8000000 in
set_option maxRecDepth 100000 in
theorem v82 {L : Nat} {xs : Nat → Int32} {Q : Option Value → Hp → Prop} {h : Hp} {b : Nat} {x : Int32} {y : Int32} (hw : HW h) (hb : SB b)
  (H : ∃ (h2 : Hp), Sp L xs 77 [.ref (b + 1), .int x, .int y] (sI h b 2 1) none h2 ∧ Q none h2) : ∃ r h', Sp L xs 82 [.ref b, .int x, .int y] h r h' ∧ Q r h' := by
  refine sp_ex (ls := [some (.ref b), some (.int x), some (.int y)]) rfl ?_
  refine e_ld (pc' := 1) i82_0 rfl rfl ?_
  refine e_cn (pc' := 2) i82_1 rfl ?_
  refine e_put (h' := sI h b 2 1) (pc' := 5) i82_2 rfl (x_isB0 hb hw.1) rfl ?_
  have w2 : HW (sI h b 2 1) := HW_sI hw
  refine e_ld (pc' := 6) i82_5 rfl rfl ?_
  refine e_get (w := .ref (b + 1)) (pc' := 9) i82_6 rfl (x_isB0 hb w2.1) (x_fvR (by decide +kernel) (w2.2 _ _ _ (SB_lk0_0 hb))) ?_
  refine e_ld (pc' := 10) i82_9 rfl rfl ?_
  refine e_ld (pc' := 11) i82_10 rfl rfl ?_
  obtain ⟨h2, s3, H⟩ := H
  have w6q := HW_sp (show x_okm 77 = true by rfl) s3 w2
  have w6 : HW h2 := w6q.1
  refine e_cV (As := [.ref (b + 1), .int x, .int y]) (rest := []) (pc' := 14) i82_11 rfl rfl rfl rfl (by show (Nat.beq (x_kd 77) 0 && x_is (b + 1) _ (MC 77) 0) = true; rw [show x_kd 77 = 0 by decide +kernel, show MC 77 = 8 by decide +kernel, (x_isB1 hb w2.1)]; rfl) s3 ?_
  refine e_rt i82_14 rfl ?_
  exact H
-- FloorTurn.recipe(IIIIIIII)I
set_option maxHeartbeats 8000000 in
set_option maxRecDepth 100000 in
theorem v84 {L : Nat} {xs : Nat → Int32} {Q : Option Value → Hp → Prop} {h : Hp} {x : Int32} {y : Int32} {z : Int32} {u : Int32} {v : Int32} {w : Int32} {t : Int32} {a : Int32} (hw : HW h) 
  (H : (((if (x_isItem x) = true then (if (x_in3 y 1 4) = true then (if (x_in3 z 1 60) = true then (if (x_in3 a 0 100) = true then (if (x_isItem u) = true then (if (x_in3 v 1 4) = true then (if w = 0 then (true) else (if (x_isItem w) = true then (if (x_in3 t 1 4) = true then (true) else (false)) else (false))) else (false)) else (false)) else (false)) else (false)) else (false)) else (false)) = true) → (((u = x) → (∃ (r48 : Int32) (h46 : Hp), Sp L xs 109 [.ref 0, .int (-6)] h (some (.int r48)) h46 ∧ Q (some (.int r48)) h46)) ∧ (¬ (u = x) → (((w = x) → (∃ (r55 : Int32) (h53 : Hp), Sp L xs 109 [.ref 0, .int (-6)] h (some (.int r55)) h53 ∧ Q (some (.int r55)) h53)) ∧ (¬ (w = x) → (((u = w) → (∃ (r99 : Int32) (h97 : Hp), Sp L xs 109 [.ref 0, .int (-6)] h (some (.int r99)) h97 ∧ Q (some (.int r99)) h97)) ∧ (¬ (u = w) → (∃ (r61 : Int32), Sp L xs 3 [.ref 2, .int x] h (some (.int r61)) h ∧ ((r61 = (-1)) → ((((gI h 2 1) < 8) → (∃ n66 : Nat, h.1 = n66 ∧ SH n66 = (6, 0) ∧ ∃ (h71 : Hp), Sp L xs 62 [.ref n66, .int x, .int y, .int z, .int a] (hN h) none h71 ∧ ∃ (h79 : Hp), Sp L xs 63 [.ref n66, .int u, .int v, .int w, .int (if w = 0 then (0) else (t))] h71 none h79 ∧ ∃ (r85 : Int32) (h83 : Hp), Sp L xs 1 [.ref 2, .ref n66] h79 (some (.int r85)) h83 ∧ Q (some (.int r85)) h83)) ∧ (¬ ((gI h 2 1) < 8) → (∃ (r89 : Int32) (h87 : Hp), Sp L xs 109 [.ref 0, .int (-7)] h (some (.int r89)) h87 ∧ Q (some (.int r89)) h87)))) ∧ (¬ (r61 = (-1)) → (∃ (r94 : Int32) (h92 : Hp), Sp L xs 109 [.ref 0, .int (-6)] h (some (.int r94)) h92 ∧ Q (some (.int r94)) h92)))))))))) ∧ (¬ ((if (x_isItem x) = true then (if (x_in3 y 1 4) = true then (if (x_in3 z 1 60) = true then (if (x_in3 a 0 100) = true then (if (x_isItem u) = true then (if (x_in3 v 1 4) = true then (if w = 0 then (true) else (if (x_isItem w) = true then (if (x_in3 t 1 4) = true then (true) else (false)) else (false))) else (false)) else (false)) else (false)) else (false)) else (false)) else (false)) = true) → (∃ (r41 : Int32) (h39 : Hp), Sp L xs 109 [.ref 0, .int (-6)] h (some (.int r41)) h39 ∧ Q (some (.int r41)) h39))) : ∃ r h', Sp L xs 84 [.ref 0, .int x, .int y, .int z, .int u, .int v, .int w, .int t, .int a] h r h' ∧ Q r h' := by
  refine sp_ex (ls := [some (.ref 0), some (.int x), some (.int y), some (.int z), some (.int u), some (.int v), some (.int w), some (.int t), some (.int a), none, none]) rfl ?_
  refine e_ld (pc' := 1) i84_0 rfl rfl ?_
  refine e_cI (w := .int (b2i (x_isItem x))) (As := [.int x]) (rest := []) (pc' := 4) i84_1 rfl rfl rfl rfl rfl m117 ?_
  refine e_reg (pc' := 83) (ls' := [some (.ref 0), some (.int x), some (.int y), some (.int z), some (.int u), some (.int v), some (.int w), some (.int t), some (.int a), none, none]) (st' := [.int (b2i (if (x_isItem x) = true then (if (x_in3 y 1 4) = true then (if (x_in3 z 1 60) = true then (if (x_in3 a 0 100) = true then (if (x_isItem u) = true then (if (x_in3 v 1 4) = true then (if w = 0 then (true) else (if (x_isItem w) = true then (if (x_in3 t 1 4) = true then (true) else (false)) else (false))) else (false)) else (false)) else (false)) else (false)) else (false)) else (false)))]) (fun kj1 => ?_) ?_
  · skip
    refine e_b0 (pc' := 7) i84_4 rfl (fun c2 => ?_) (fun c2 => ?_)
    · have d3 : ¬ ((x_isItem x) = true) := (show ¬ (x_isItem x) = true by rw [c2]; decide)
      refine e_cn (pc' := 83) i84_82 rfl ?_
      exact (by simp only [if_neg d3] at kj1 ⊢; exact kj1)
    · have d4 : (x_isItem x) = true := c2
      refine e_ld (pc' := 8) i84_7 rfl rfl ?_
      refine e_cn (pc' := 9) i84_8 rfl ?_
      refine e_cn (pc' := 10) i84_9 rfl ?_
      refine e_cI (w := .int (b2i (x_in3 y 1 4))) (As := [.int y, .int 1, .int 4]) (rest := []) (pc' := 13) i84_10 rfl rfl rfl rfl rfl m114 ?_
      refine e_reg (pc' := 83) (ls' := [some (.ref 0), some (.int x), some (.int y), some (.int z), some (.int u), some (.int v), some (.int w), some (.int t), some (.int a), none, none]) (st' := [.int (b2i (if (x_in3 y 1 4) = true then (if (x_in3 z 1 60) = true then (if (x_in3 a 0 100) = true then (if (x_isItem u) = true then (if (x_in3 v 1 4) = true then (if w = 0 then (true) else (if (x_isItem w) = true then (if (x_in3 t 1 4) = true then (true) else (false)) else (false))) else (false)) else (false)) else (false)) else (false)) else (false)))]) (fun kj5 => ?_) ?_
      · skip
        refine e_b0 (pc' := 16) i84_13 rfl (fun c6 => ?_) (fun c6 => ?_)
        · have d7 : ¬ ((x_in3 y 1 4) = true) := (show ¬ (x_in3 y 1 4) = true by rw [c6]; decide)
          refine e_cn (pc' := 83) i84_82 rfl ?_
          exact (by simp only [if_neg d7] at kj5 ⊢; exact kj5)
        · have d8 : (x_in3 y 1 4) = true := c6
          refine e_ld (pc' := 17) i84_16 rfl rfl ?_
          refine e_cn (pc' := 18) i84_17 rfl ?_
          refine e_cn (pc' := 20) i84_18 rfl ?_
          refine e_cI (w := .int (b2i (x_in3 z 1 60))) (As := [.int z, .int 1, .int 60]) (rest := []) (pc' := 23) i84_20 rfl rfl rfl rfl rfl m114 ?_
          refine e_reg (pc' := 83) (ls' := [some (.ref 0), some (.int x), some (.int y), some (.int z), some (.int u), some (.int v), some (.int w), some (.int t), some (.int a), none, none]) (st' := [.int (b2i (if (x_in3 z 1 60) = true then (if (x_in3 a 0 100) = true then (if (x_isItem u) = true then (if (x_in3 v 1 4) = true then (if w = 0 then (true) else (if (x_isItem w) = true then (if (x_in3 t 1 4) = true then (true) else (false)) else (false))) else (false)) else (false)) else (false)) else (false)))]) (fun kj9 => ?_) ?_
          · skip
            refine e_b0 (pc' := 26) i84_23 rfl (fun c10 => ?_) (fun c10 => ?_)
            · have d11 : ¬ ((x_in3 z 1 60) = true) := (show ¬ (x_in3 z 1 60) = true by rw [c10]; decide)
              refine e_cn (pc' := 83) i84_82 rfl ?_
              exact (by simp only [if_neg d11] at kj9 ⊢; exact kj9)
            · have d12 : (x_in3 z 1 60) = true := c10
              refine e_ld (pc' := 28) i84_26 rfl rfl ?_
              refine e_cn (pc' := 29) i84_28 rfl ?_
              refine e_cn (pc' := 31) i84_29 rfl ?_
              refine e_cI (w := .int (b2i (x_in3 a 0 100))) (As := [.int a, .int 0, .int 100]) (rest := []) (pc' := 34) i84_31 rfl rfl rfl rfl rfl m114 ?_
              refine e_reg (pc' := 83) (ls' := [some (.ref 0), some (.int x), some (.int y), some (.int z), some (.int u), some (.int v), some (.int w), some (.int t), some (.int a), none, none]) (st' := [.int (b2i (if (x_in3 a 0 100) = true then (if (x_isItem u) = true then (if (x_in3 v 1 4) = true then (if w = 0 then (true) else (if (x_isItem w) = true then (if (x_in3 t 1 4) = true then (true) else (false)) else (false))) else (false)) else (false)) else (false)))]) (fun kj13 => ?_) ?_
              · skip
                refine e_b0 (pc' := 37) i84_34 rfl (fun c14 => ?_) (fun c14 => ?_)
                · have d15 : ¬ ((x_in3 a 0 100) = true) := (show ¬ (x_in3 a 0 100) = true by rw [c14]; decide)
                  refine e_cn (pc' := 83) i84_82 rfl ?_
                  exact (by simp only [if_neg d15] at kj13 ⊢; exact kj13)
                · have d16 : (x_in3 a 0 100) = true := c14
                  refine e_ld (pc' := 39) i84_37 rfl rfl ?_
                  refine e_cI (w := .int (b2i (x_isItem u))) (As := [.int u]) (rest := []) (pc' := 42) i84_39 rfl rfl rfl rfl rfl m117 ?_
                  refine e_reg (pc' := 83) (ls' := [some (.ref 0), some (.int x), some (.int y), some (.int z), some (.int u), some (.int v), some (.int w), some (.int t), some (.int a), none, none]) (st' := [.int (b2i (if (x_isItem u) = true then (if (x_in3 v 1 4) = true then (if w = 0 then (true) else (if (x_isItem w) = true then (if (x_in3 t 1 4) = true then (true) else (false)) else (false))) else (false)) else (false)))]) (fun kj17 => ?_) ?_
                  · skip
                    refine e_b0 (pc' := 45) i84_42 rfl (fun c18 => ?_) (fun c18 => ?_)
                    · have d19 : ¬ ((x_isItem u) = true) := (show ¬ (x_isItem u) = true by rw [c18]; decide)
                      refine e_cn (pc' := 83) i84_82 rfl ?_
                      exact (by simp only [if_neg d19] at kj17 ⊢; exact kj17)
                    · have d20 : (x_isItem u) = true := c18
                      refine e_ld (pc' := 47) i84_45 rfl rfl ?_
                      refine e_cn (pc' := 48) i84_47 rfl ?_
                      refine e_cn (pc' := 49) i84_48 rfl ?_
                      refine e_cI (w := .int (b2i (x_in3 v 1 4))) (As := [.int v, .int 1, .int 4]) (rest := []) (pc' := 52) i84_49 rfl rfl rfl rfl rfl m114 ?_
                      refine e_reg (pc' := 83) (ls' := [some (.ref 0), some (.int x), some (.int y), some (.int z), some (.int u), some (.int v), some (.int w), some (.int t), some (.int a), none, none]) (st' := [.int (b2i (if (x_in3 v 1 4) = true then (if w = 0 then (true) else (if (x_isItem w) = true then (if (x_in3 t 1 4) = true then (true) else (false)) else (false))) else (false)))]) (fun kj21 => ?_) ?_
                      · skip
                        refine e_b0 (pc' := 55) i84_52 rfl (fun c22 => ?_) (fun c22 => ?_)
                        · have d23 : ¬ ((x_in3 v 1 4) = true) := (show ¬ (x_in3 v 1 4) = true by rw [c22]; decide)
                          refine e_cn (pc' := 83) i84_82 rfl ?_
                          exact (by simp only [if_neg d23] at kj21 ⊢; exact kj21)
                        · have d24 : (x_in3 v 1 4) = true := c22
                          refine e_ld (pc' := 57) i84_55 rfl rfl ?_
                          refine e_reg (pc' := 83) (ls' := [some (.ref 0), some (.int x), some (.int y), some (.int z), some (.int u), some (.int v), some (.int w), some (.int t), some (.int a), none, none]) (st' := [.int (b2i (if w = 0 then (true) else (if (x_isItem w) = true then (if (x_in3 t 1 4) = true then (true) else (false)) else (false))))]) (fun kj25 => ?_) ?_
                          · skip
                            refine e_if (pc' := 60) i84_57 rfl (fun c26 => ?_) (fun c26 => ?_)
                            · have d27 : w = 0 := (of_decide_eq_true c26)
                              refine e_cn (pc' := 79) i84_78 rfl ?_
                              refine e_go i84_79 ?_
                              exact (by simp only [if_pos d27] at kj25 ⊢; exact kj25)
                            · have d28 : ¬ (w = 0) := (of_decide_eq_false c26)
                              refine e_ld (pc' := 62) i84_60 rfl rfl ?_
                              refine e_cI (w := .int (b2i (x_isItem w))) (As := [.int w]) (rest := []) (pc' := 65) i84_62 rfl rfl rfl rfl rfl m117 ?_
                              refine e_reg (pc' := 83) (ls' := [some (.ref 0), some (.int x), some (.int y), some (.int z), some (.int u), some (.int v), some (.int w), some (.int t), some (.int a), none, none]) (st' := [.int (b2i (if (x_isItem w) = true then (if (x_in3 t 1 4) = true then (true) else (false)) else (false)))]) (fun kj29 => ?_) ?_
                              · skip
                                refine e_b0 (pc' := 68) i84_65 rfl (fun c30 => ?_) (fun c30 => ?_)
                                · have d31 : ¬ ((x_isItem w) = true) := (show ¬ (x_isItem w) = true by rw [c30]; decide)
                                  refine e_cn (pc' := 83) i84_82 rfl ?_
                                  exact (by simp only [if_neg d31] at kj29 ⊢; exact kj29)
                                · have d32 : (x_isItem w) = true := c30
                                  refine e_ld (pc' := 70) i84_68 rfl rfl ?_
                                  refine e_cn (pc' := 71) i84_70 rfl ?_
                                  refine e_cn (pc' := 72) i84_71 rfl ?_
                                  refine e_cI (w := .int (b2i (x_in3 t 1 4))) (As := [.int t, .int 1, .int 4]) (rest := []) (pc' := 75) i84_72 rfl rfl rfl rfl rfl m114 ?_
                                  refine e_reg (pc' := 83) (ls' := [some (.ref 0), some (.int x), some (.int y), some (.int z), some (.int u), some (.int v), some (.int w), some (.int t), some (.int a), none, none]) (st' := [.int (b2i (if (x_in3 t 1 4) = true then (true) else (false)))]) (fun kj33 => ?_) ?_
                                  · skip
                                    refine e_b0 (pc' := 78) i84_75 rfl (fun c34 => ?_) (fun c34 => ?_)
                                    · have d35 : ¬ ((x_in3 t 1 4) = true) := (show ¬ (x_in3 t 1 4) = true by rw [c34]; decide)
                                      refine e_cn (pc' := 83) i84_82 rfl ?_
                                      exact (by simp only [if_neg d35] at kj33 ⊢; exact kj33)
                                    · have d36 : (x_in3 t 1 4) = true := c34
                                      refine e_cn (pc' := 79) i84_78 rfl ?_
                                      refine e_go i84_79 ?_
                                      exact (by simp only [if_pos d36] at kj33 ⊢; exact kj33)
                                  exact (by simp only [if_pos d32] at kj29 ⊢; exact kj29)
                              exact (by simp only [if_neg d28] at kj25 ⊢; exact kj25)
                          exact (by simp only [if_pos d24] at kj21 ⊢; exact kj21)
                      exact (by simp only [if_pos d20] at kj17 ⊢; exact kj17)
                  exact (by simp only [if_pos d16] at kj13 ⊢; exact kj13)
              exact (by simp only [if_pos d12] at kj9 ⊢; exact kj9)
          exact (by simp only [if_pos d8] at kj5 ⊢; exact kj5)
      exact (by simp only [if_pos d4] at kj1 ⊢; exact kj1)
  refine e_st (ls' := [some (.ref 0), some (.int x), some (.int y), some (.int z), some (.int u), some (.int v), some (.int w), some (.int t), some (.int a), some (.int (b2i (if (x_isItem x) = true then (if (x_in3 y 1 4) = true then (if (x_in3 z 1 60) = true then (if (x_in3 a 0 100) = true then (if (x_isItem u) = true then (if (x_in3 v 1 4) = true then (if w = 0 then (true) else (if (x_isItem w) = true then (if (x_in3 t 1 4) = true then (true) else (false)) else (false))) else (false)) else (false)) else (false)) else (false)) else (false)) else (false)))), none]) (pc' := 85) i84_83 rfl rfl rfl ?_
  refine e_ld (pc' := 87) i84_85 rfl rfl ?_
  refine e_b0 (pc' := 90) i84_87 rfl (fun c37 => ?_) (fun c37 => ?_)
  · have d38 : ¬ ((if (x_isItem x) = true then (if (x_in3 y 1 4) = true then (if (x_in3 z 1 60) = true then (if (x_in3 a 0 100) = true then (if (x_isItem u) = true then (if (x_in3 v 1 4) = true then (if w = 0 then (true) else (if (x_isItem w) = true then (if (x_in3 t 1 4) = true then (true) else (false)) else (false))) else (false)) else (false)) else (false)) else (false)) else (false)) else (false)) = true) := (show ¬ (if (x_isItem x) = true then (if (x_in3 y 1 4) = true then (if (x_in3 z 1 60) = true then (if (x_in3 a 0 100) = true then (if (x_isItem u) = true then (if (x_in3 v 1 4) = true then (if w = 0 then (true) else (if (x_isItem w) = true then (if (x_in3 t 1 4) = true then (true) else (false)) else (false))) else (false)) else (false)) else (false)) else (false)) else (false)) else (false)) = true by rw [c37]; decide)
    replace H := H.2 d38
    refine e_ld (pc' := 110) i84_109 rfl rfl ?_
    refine e_cn (pc' := 112) i84_110 rfl ?_
    obtain ⟨r41, h39, s40, H⟩ := H
    have w43q := HW_sp (show x_okm 109 = true by rfl) s40 hw
    have w43 : HW h39 := w43q.1
    refine e_cI (w := .int r41) (As := [.ref 0, .int (-6)]) (rest := []) (pc' := 115) i84_112 rfl rfl rfl rfl (by show (Nat.beq (x_kd 109) 0 && x_is 0 _ (MC 109) 0) = true; rw [show x_kd 109 = 0 by decide +kernel, show MC 109 = 10 by decide +kernel, (x_isC (by decide) hw.1 sh0)]; rfl) s40 ?_
    refine e_rt i84_115 rfl ?_
    exact H
  · have d43 : (if (x_isItem x) = true then (if (x_in3 y 1 4) = true then (if (x_in3 z 1 60) = true then (if (x_in3 a 0 100) = true then (if (x_isItem u) = true then (if (x_in3 v 1 4) = true then (if w = 0 then (true) else (if (x_isItem w) = true then (if (x_in3 t 1 4) = true then (true) else (false)) else (false))) else (false)) else (false)) else (false)) else (false)) else (false)) else (false)) = true := c37
    replace H := H.1 d43
    refine e_ld (pc' := 92) i84_90 rfl rfl ?_
    refine e_ld (pc' := 93) i84_92 rfl rfl ?_
    refine e_ic (pc' := 96) i84_93 rfl (fun c44 => ?_) (fun c44 => ?_)
    · have d45 : u = x := (of_decide_eq_true c44)
      replace H := H.1 d45
      refine e_ld (pc' := 110) i84_109 rfl rfl ?_
      refine e_cn (pc' := 112) i84_110 rfl ?_
      obtain ⟨r48, h46, s47, H⟩ := H
      have w50q := HW_sp (show x_okm 109 = true by rfl) s47 hw
      have w50 : HW h46 := w50q.1
      refine e_cI (w := .int r48) (As := [.ref 0, .int (-6)]) (rest := []) (pc' := 115) i84_112 rfl rfl rfl rfl (by show (Nat.beq (x_kd 109) 0 && x_is 0 _ (MC 109) 0) = true; rw [show x_kd 109 = 0 by decide +kernel, show MC 109 = 10 by decide +kernel, (x_isC (by decide) hw.1 sh0)]; rfl) s47 ?_
      refine e_rt i84_115 rfl ?_
      exact H
    · have d50 : ¬ (u = x) := (of_decide_eq_false c44)
      replace H := H.2 d50
      refine e_ld (pc' := 98) i84_96 rfl rfl ?_
      refine e_ld (pc' := 99) i84_98 rfl rfl ?_
      refine e_ic (pc' := 102) i84_99 rfl (fun c51 => ?_) (fun c51 => ?_)
      · have d52 : w = x := (of_decide_eq_true c51)
        replace H := H.1 d52
        refine e_ld (pc' := 110) i84_109 rfl rfl ?_
        refine e_cn (pc' := 112) i84_110 rfl ?_
        obtain ⟨r55, h53, s54, H⟩ := H
        have w57q := HW_sp (show x_okm 109 = true by rfl) s54 hw
        have w57 : HW h53 := w57q.1
        refine e_cI (w := .int r55) (As := [.ref 0, .int (-6)]) (rest := []) (pc' := 115) i84_112 rfl rfl rfl rfl (by show (Nat.beq (x_kd 109) 0 && x_is 0 _ (MC 109) 0) = true; rw [show x_kd 109 = 0 by decide +kernel, show MC 109 = 10 by decide +kernel, (x_isC (by decide) hw.1 sh0)]; rfl) s54 ?_
        refine e_rt i84_115 rfl ?_
        exact H
      · have d57 : ¬ (w = x) := (of_decide_eq_false c51)
        replace H := H.2 d57
        refine e_ld (pc' := 104) i84_102 rfl rfl ?_
        refine e_ld (pc' := 106) i84_104 rfl rfl ?_
        refine e_ic (pc' := 109) i84_106 rfl (fun c58 => ?_) (fun c58 => ?_)
        · have d59 : ¬ (u = w) := (of_decide_eq_true c58)
          replace H := H.2 d59
          refine e_ld (pc' := 117) i84_116 rfl rfl ?_
          refine e_get (w := .ref 2) (pc' := 120) i84_117 rfl (x_isC (by decide) hw.1 sh0) (x_fvR (by decide +kernel) (hw.2 0 1 2 lk0_1)) ?_
          refine e_ld (pc' := 121) i84_120 rfl rfl ?_
          obtain ⟨r61, s60, H⟩ := H
          refine e_cI (w := .int r61) (As := [.ref 2, .int x]) (rest := []) (pc' := 124) i84_121 rfl rfl rfl rfl (by show (Nat.beq (x_kd 3) 0 && x_is 2 _ (MC 3) 0) = true; rw [show x_kd 3 = 0 by decide +kernel, show MC 3 = 0 by decide +kernel, (x_isC (by decide) hw.1 sh2)]; rfl) s60 ?_
          refine e_cn (pc' := 125) i84_124 rfl ?_
          refine e_ic (pc' := 128) i84_125 rfl (fun c62 => ?_) (fun c62 => ?_)
          · have d63 : r61 = (-1) := (of_decide_eq_true c62)
            replace H := H.1 d63
            refine e_ld (pc' := 136) i84_135 rfl rfl ?_
            refine e_get (w := .ref 2) (pc' := 139) i84_136 rfl (x_isC (by decide) hw.1 sh0) (x_fvR (by decide +kernel) (hw.2 0 1 2 lk0_1)) ?_
            refine e_get (w := .int (gI h 2 1)) (pc' := 142) i84_139 rfl (x_isC (by decide) hw.1 sh2) rfl ?_
            refine e_cn (pc' := 144) i84_142 rfl ?_
            refine e_ic (pc' := 147) i84_144 rfl (fun c64 => ?_) (fun c64 => ?_)
            · have d65 : (gI h 2 1) < 8 := (of_decide_eq_true c64)
              replace H := H.1 d65
              obtain ⟨n66, g67, g68, H⟩ := H
              refine e_new (n := n66) (pc' := 157) i84_154 rfl g67 g68 ?_
              have w70 : HW (hN h) := HW_hN hw
              have g70 : RQ n66 (hN h).1 := RQ_hN _ g67 g68
              refine e_stk (pc' := 158) i84_157 rfl rfl ?_
              refine e_ld (pc' := 159) i84_158 rfl rfl ?_
              refine e_ld (pc' := 160) i84_159 rfl rfl ?_
              refine e_ld (pc' := 161) i84_160 rfl rfl ?_
              refine e_ld (pc' := 163) i84_161 rfl rfl ?_
              obtain ⟨h71, s72, H⟩ := H
              have w75q := HW_sp (show x_okm 62 = true by rfl) s72 w70
              have w75 : HW h71 := w75q.1
              have rq74 : RQ n66 h71.1 := by rw [w75q.2]; exact g70
              refine e_cV (As := [.ref n66, .int x, .int y, .int z, .int a]) (rest := [.ref n66]) (pc' := 166) i84_163 rfl rfl rfl rfl rfl s72 ?_
              refine e_st (ls' := [some (.ref 0), some (.int x), some (.int y), some (.int z), some (.int u), some (.int v), some (.int w), some (.int t), some (.int a), some (.int (b2i (if (x_isItem x) = true then (if (x_in3 y 1 4) = true then (if (x_in3 z 1 60) = true then (if (x_in3 a 0 100) = true then (if (x_isItem u) = true then (if (x_in3 v 1 4) = true then (if w = 0 then (true) else (if (x_isItem w) = true then (if (x_in3 t 1 4) = true then (true) else (false)) else (false))) else (false)) else (false)) else (false)) else (false)) else (false)) else (false)))), some (.ref n66)]) (pc' := 168) i84_166 rfl rfl rfl ?_
              refine e_ld (pc' := 170) i84_168 rfl rfl ?_
              refine e_ld (pc' := 172) i84_170 rfl rfl ?_
              refine e_ld (pc' := 174) i84_172 rfl rfl ?_
              refine e_ld (pc' := 176) i84_174 rfl rfl ?_
              refine e_ld (pc' := 178) i84_176 rfl rfl ?_
              refine e_reg (pc' := 187) (ls' := [some (.ref 0), some (.int x), some (.int y), some (.int z), some (.int u), some (.int v), some (.int w), some (.int t), some (.int a), some (.int (b2i (if (x_isItem x) = true then (if (x_in3 y 1 4) = true then (if (x_in3 z 1 60) = true then (if (x_in3 a 0 100) = true then (if (x_isItem u) = true then (if (x_in3 v 1 4) = true then (if w = 0 then (true) else (if (x_isItem w) = true then (if (x_in3 t 1 4) = true then (true) else (false)) else (false))) else (false)) else (false)) else (false)) else (false)) else (false)) else (false)))), some (.ref n66)]) (st' := [.int (if w = 0 then (0) else (t)), .int w, .int v, .int u, .ref n66]) (fun kj75 => ?_) ?_
              · skip
                refine e_if (pc' := 181) i84_178 rfl (fun c76 => ?_) (fun c76 => ?_)
                · have d77 : ¬ (w = 0) := (of_decide_eq_true c76)
                  refine e_ld (pc' := 187) i84_185 rfl rfl ?_
                  exact (by simp only [if_neg d77] at kj75 ⊢; exact kj75)
                · have d78 : w = 0 := (Decidable.not_not.mp (of_decide_eq_false c76))
                  refine e_cn (pc' := 182) i84_181 rfl ?_
                  refine e_go i84_182 ?_
                  exact (by simp only [if_pos d78] at kj75 ⊢; exact kj75)
              obtain ⟨h79, s80, H⟩ := H
              have w84q := HW_sp (show x_okm 63 = true by rfl) s80 w75
              have w84 : HW h79 := w84q.1
              have rq82 : RQ n66 h79.1 := by rw [w84q.2]; exact rq74
              refine e_cV (As := [.ref n66, .int u, .int v, .int w, .int (if w = 0 then (0) else (t))]) (rest := []) (pc' := 190) i84_187 rfl rfl rfl rfl (by show (Nat.beq (x_kd 63) 0 && x_is n66 _ (MC 63) 0) = true; rw [show x_kd 63 = 0 by decide +kernel, show MC 63 = 6 by decide +kernel, (x_isV rq74.1 rq74.2)]; rfl) s80 ?_
              refine e_ld (pc' := 191) i84_190 rfl rfl ?_
              refine e_get (w := .ref 2) (pc' := 194) i84_191 rfl (x_isC (by decide) w84.1 sh0) (x_fvR (by decide +kernel) (w84.2 0 1 2 lk0_1)) ?_
              refine e_ld (pc' := 196) i84_194 rfl rfl ?_
              obtain ⟨r85, h83, s84, H⟩ := H
              refine e_cI (w := .int r85) (As := [.ref 2, .ref n66]) (rest := []) (pc' := 199) i84_196 rfl rfl rfl rfl (by show (Nat.beq (x_kd 1) 0 && x_is 2 _ (MC 1) 0) = true; rw [show x_kd 1 = 0 by decide +kernel, show MC 1 = 0 by decide +kernel, (x_isC (by decide) w84.1 sh2)]; rfl) s84 ?_
              refine e_rt i84_199 rfl ?_
              exact H
            · have d86 : ¬ ((gI h 2 1) < 8) := (of_decide_eq_false c64)
              replace H := H.2 d86
              refine e_ld (pc' := 148) i84_147 rfl rfl ?_
              refine e_cn (pc' := 150) i84_148 rfl ?_
              obtain ⟨r89, h87, s88, H⟩ := H
              have w91q := HW_sp (show x_okm 109 = true by rfl) s88 hw
              have w91 : HW h87 := w91q.1
              refine e_cI (w := .int r89) (As := [.ref 0, .int (-7)]) (rest := []) (pc' := 153) i84_150 rfl rfl rfl rfl (by show (Nat.beq (x_kd 109) 0 && x_is 0 _ (MC 109) 0) = true; rw [show x_kd 109 = 0 by decide +kernel, show MC 109 = 10 by decide +kernel, (x_isC (by decide) hw.1 sh0)]; rfl) s88 ?_
              refine e_rt i84_153 rfl ?_
              exact H
          · have d91 : ¬ (r61 = (-1)) := (of_decide_eq_false c62)
            replace H := H.2 d91
            refine e_ld (pc' := 129) i84_128 rfl rfl ?_
            refine e_cn (pc' := 131) i84_129 rfl ?_
            obtain ⟨r94, h92, s93, H⟩ := H
            have w96q := HW_sp (show x_okm 109 = true by rfl) s93 hw
            have w96 : HW h92 := w96q.1
            refine e_cI (w := .int r94) (As := [.ref 0, .int (-6)]) (rest := []) (pc' := 134) i84_131 rfl rfl rfl rfl (by show (Nat.beq (x_kd 109) 0 && x_is 0 _ (MC 109) 0) = true; rw [show x_kd 109 = 0 by decide +kernel, show MC 109 = 10 by decide +kernel, (x_isC (by decide) hw.1 sh0)]; rfl) s93 ?_
            refine e_rt i84_134 rfl ?_
            exact H
        · have d96 : u = w := (Decidable.not_not.mp (of_decide_eq_false c58))
          replace H := H.1 d96
          refine e_ld (pc' := 110) i84_109 rfl rfl ?_
          refine e_cn (pc' := 112) i84_110 rfl ?_
          obtain ⟨r99, h97, s98, H⟩ := H
          have w101q := HW_sp (show x_okm 109 = true by rfl) s98 hw
          have w101 : HW h97 := w101q.1
          refine e_cI (w := .int r99) (As := [.ref 0, .int (-6)]) (rest := []) (pc' := 115) i84_112 rfl rfl rfl rfl (by show (Nat.beq (x_kd 109) 0 && x_is 0 _ (MC 109) 0) = true; rw [show x_kd 109 = 0 by decide +kernel, show MC 109 = 10 by decide +kernel, (x_isC (by decide) hw.1 sh0)]; rfl) s98 ?_
          refine e_rt i84_115 rfl ?_
          exact H
-- FloorTurn.build(IIIII)I
set_option maxHeartbeats 8000000 in
set_option maxRecDepth 100000 in
theorem v85 {L : Nat} {xs : Nat → Int32} {Q : Option Value → Hp → Prop} {h : Hp} {x : Int32} {y : Int32} {z : Int32} {u : Int32} {v : Int32} (hw : HW h) 
  (H : ∃ (r2 : Int32), Sp L xs 112 [.ref 0, .int x, .int y, .int z, .int u, .int v] h (some (.int r2)) h ∧ ((r2 = 0) → (∃ (h5 : Hp), Sp L xs 14 [.ref 4, .int x, .int y, .int z, .int u, .int v] h none h5 ∧ Q (some (.int 1)) h5)) ∧ (¬ (r2 = 0) → (∃ (r11 : Int32) (h9 : Hp), Sp L xs 109 [.ref 0, .int r2] h (some (.int r11)) h9 ∧ Q (some (.int r11)) h9))) : ∃ r h', Sp L xs 85 [.ref 0, .int x, .int y, .int z, .int u, .int v] h r h' ∧ Q r h' := by
  refine sp_ex (ls := [some (.ref 0), some (.int x), some (.int y), some (.int z), some (.int u), some (.int v), none]) rfl ?_
  refine e_ld (pc' := 1) i85_0 rfl rfl ?_
  refine e_ld (pc' := 2) i85_1 rfl rfl ?_
  refine e_ld (pc' := 3) i85_2 rfl rfl ?_
  refine e_ld (pc' := 4) i85_3 rfl rfl ?_
  refine e_ld (pc' := 6) i85_4 rfl rfl ?_
  refine e_ld (pc' := 8) i85_6 rfl rfl ?_
  obtain ⟨r2, s1, H⟩ := H
  refine e_cI (w := .int r2) (As := [.ref 0, .int x, .int y, .int z, .int u, .int v]) (rest := []) (pc' := 11) i85_8 rfl rfl rfl rfl (by show (Nat.beq (x_kd 112) 0 && x_is 0 _ (MC 112) 0) = true; rw [show x_kd 112 = 0 by decide +kernel, show MC 112 = 10 by decide +kernel, (x_isC (by decide) hw.1 sh0)]; rfl) s1 ?_
  refine e_st (ls' := [some (.ref 0), some (.int x), some (.int y), some (.int z), some (.int u), some (.int v), some (.int r2)]) (pc' := 13) i85_11 rfl rfl rfl ?_
  refine e_ld (pc' := 15) i85_13 rfl rfl ?_
  refine e_if (pc' := 18) i85_15 rfl (fun c3 => ?_) (fun c3 => ?_)
  · have d4 : r2 = 0 := (of_decide_eq_true c3)
    replace H := H.1 d4
    refine e_ld (pc' := 26) i85_25 rfl rfl ?_
    refine e_get (w := .ref 4) (pc' := 29) i85_26 rfl (x_isC (by decide) hw.1 sh0) (x_fvR (by decide +kernel) (hw.2 0 2 4 lk0_2)) ?_
    refine e_ld (pc' := 30) i85_29 rfl rfl ?_
    refine e_ld (pc' := 31) i85_30 rfl rfl ?_
    refine e_ld (pc' := 32) i85_31 rfl rfl ?_
    refine e_ld (pc' := 34) i85_32 rfl rfl ?_
    refine e_ld (pc' := 36) i85_34 rfl rfl ?_
    obtain ⟨h5, s6, H⟩ := H
    have w8q := HW_sp (show x_okm 14 = true by rfl) s6 hw
    have w8 : HW h5 := w8q.1
    refine e_cV (As := [.ref 4, .int x, .int y, .int z, .int u, .int v]) (rest := []) (pc' := 39) i85_36 rfl rfl rfl rfl (by show (Nat.beq (x_kd 14) 0 && x_is 4 _ (MC 14) 0) = true; rw [show x_kd 14 = 0 by decide +kernel, show MC 14 = 2 by decide +kernel, (x_isC (by decide) hw.1 sh4)]; rfl) s6 ?_
    refine e_cn (pc' := 40) i85_39 rfl ?_
    refine e_rt i85_40 rfl ?_
    exact H
  · have d8 : ¬ (r2 = 0) := (of_decide_eq_false c3)
    replace H := H.2 d8
    refine e_ld (pc' := 19) i85_18 rfl rfl ?_
    refine e_ld (pc' := 21) i85_19 rfl rfl ?_
    obtain ⟨r11, h9, s10, H⟩ := H
    have w13q := HW_sp (show x_okm 109 = true by rfl) s10 hw
    have w13 : HW h9 := w13q.1
    refine e_cI (w := .int r11) (As := [.ref 0, .int r2]) (rest := []) (pc' := 24) i85_21 rfl rfl rfl rfl (by show (Nat.beq (x_kd 109) 0 && x_is 0 _ (MC 109) 0) = true; rw [show x_kd 109 = 0 by decide +kernel, show MC 109 = 10 by decide +kernel, (x_isC (by decide) hw.1 sh0)]; rfl) s10 ?_
    refine e_rt i85_24 rfl ?_
    exact H
-- FloorTurn.builds(I)I
set_option maxHeartbeats 8000000 in
set_option maxRecDepth 100000 in
theorem v86 {L : Nat} {xs : Nat → Int32} {Q : Option Value → Hp → Prop} {h : Hp} {x : Int32} (hw : HW h) 
  (H : ∃ (r2 : Int32), Sp L xs 110 [.ref 0, .int x] h (some (.int r2)) h ∧ ((r2 = 0) → (∃ k5 : Nat, x = nI k5 ∧ k5 < 8 ∧ ((((gI h ((155 + 10 * k5) + 1) 2) - (gI h ((155 + 10 * k5) + 1) 2) / 5 * 5) = 0) → (WP L xs 86 53 [some (.ref 0), some (.int x), some (.int r2), some (.ref ((155 + 10 * k5) + 1)), some (.int ((gI h ((155 + 10 * k5) + 1) 2) / 5)), some (.int 0), none] [] h Q)) ∧ (¬ (((gI h ((155 + 10 * k5) + 1) 2) - (gI h ((155 + 10 * k5) + 1) 2) / 5 * 5) = 0) → (∃ (r13 : Int32) (h11 : Hp), Sp L xs 109 [.ref 0, .int (-6)] h (some (.int r13)) h11 ∧ Q (some (.int r13)) h11)))) ∧ (¬ (r2 = 0) → (∃ (r18 : Int32) (h16 : Hp), Sp L xs 109 [.ref 0, .int r2] h (some (.int r18)) h16 ∧ Q (some (.int r18)) h16))) : ∃ r h', Sp L xs 86 [.ref 0, .int x] h r h' ∧ Q r h' := by
  refine sp_ex (ls := [some (.ref 0), some (.int x), none, none, none, none, none]) rfl ?_
  refine e_ld (pc' := 1) i86_0 rfl rfl ?_
  refine e_ld (pc' := 2) i86_1 rfl rfl ?_
  obtain ⟨r2, s1, H⟩ := H
  refine e_cI (w := .int r2) (As := [.ref 0, .int x]) (rest := []) (pc' := 5) i86_2 rfl rfl rfl rfl (by show (Nat.beq (x_kd 110) 0 && x_is 0 _ (MC 110) 0) = true; rw [show x_kd 110 = 0 by decide +kernel, show MC 110 = 10 by decide +kernel, (x_isC (by decide) hw.1 sh0)]; rfl) s1 ?_
  refine e_st (ls' := [some (.ref 0), some (.int x), some (.int r2), none, none, none, none]) (pc' := 6) i86_5 rfl rfl rfl ?_
  refine e_ld (pc' := 7) i86_6 rfl rfl ?_
  refine e_if (pc' := 10) i86_7 rfl (fun c3 => ?_) (fun c3 => ?_)
  · have d4 : r2 = 0 := (of_decide_eq_true c3)
    replace H := H.1 d4
    refine e_ld (pc' := 17) i86_16 rfl rfl ?_
    refine e_get (w := .ref 154) (pc' := 20) i86_17 rfl (x_isC (by decide) hw.1 sh0) (x_fvR (by decide +kernel) (hw.2 0 3 154 lk0_3)) ?_
    refine e_ld (pc' := 21) i86_20 rfl rfl ?_
    obtain ⟨k5, e6, g7, H⟩ := H
    refine e_al (n := k5) (w := .ref (155 + 10 * k5)) (pc' := 22) i86_21 rfl (x_alE (a := 23) (by decide) hw.1 sh154 (by decide) e6 g7 (by decide)) (x_clE e6 g7 (by decide)) (x_agR (hw.2 _ _ _ (LK_s g7))) ?_
    refine e_get (w := .ref ((155 + 10 * k5) + 1)) (pc' := 25) i86_22 rfl (x_isB0 (SB_of g7) hw.1) (x_fvR (by decide +kernel) (hw.2 _ _ _ (SB_lk0_0 (SB_of g7)))) ?_
    refine e_st (ls' := [some (.ref 0), some (.int x), some (.int r2), some (.ref ((155 + 10 * k5) + 1)), none, none, none]) (pc' := 26) i86_25 rfl rfl rfl ?_
    refine e_ld (pc' := 27) i86_26 rfl rfl ?_
    refine e_get (w := .int (gI h ((155 + 10 * k5) + 1) 2)) (pc' := 30) i86_27 rfl (x_isB1 (SB_of g7) hw.1) rfl ?_
    refine e_cn (pc' := 31) i86_30 rfl ?_
    refine e_ib (z := (gI h ((155 + 10 * k5) + 1) 2) - (gI h ((155 + 10 * k5) + 1) 2) / 5 * 5) (pc' := 32) i86_31 rfl (x_ib_rem (by decide)) ?_
    refine e_if (pc' := 35) i86_32 rfl (fun c8 => ?_) (fun c8 => ?_)
    · have d9 : ((gI h ((155 + 10 * k5) + 1) 2) - (gI h ((155 + 10 * k5) + 1) 2) / 5 * 5) = 0 := (of_decide_eq_true c8)
      replace H := H.1 d9
      refine e_ld (pc' := 43) i86_42 rfl rfl ?_
      refine e_get (w := .int (gI h ((155 + 10 * k5) + 1) 2)) (pc' := 46) i86_43 rfl (x_isB1 (SB_of g7) hw.1) rfl ?_
      refine e_cn (pc' := 47) i86_46 rfl ?_
      refine e_ib (z := (gI h ((155 + 10 * k5) + 1) 2) / 5) (pc' := 48) i86_47 rfl (x_ib_div (by decide)) ?_
      refine e_st (ls' := [some (.ref 0), some (.int x), some (.int r2), some (.ref ((155 + 10 * k5) + 1)), some (.int ((gI h ((155 + 10 * k5) + 1) 2) / 5)), none, none]) (pc' := 50) i86_48 rfl rfl rfl ?_
      refine e_cn (pc' := 51) i86_50 rfl ?_
      refine e_st (ls' := [some (.ref 0), some (.int x), some (.int r2), some (.ref ((155 + 10 * k5) + 1)), some (.int ((gI h ((155 + 10 * k5) + 1) 2) / 5)), some (.int 0), none]) (pc' := 53) i86_51 rfl rfl rfl ?_
      exact H
    · have d10 : ¬ (((gI h ((155 + 10 * k5) + 1) 2) - (gI h ((155 + 10 * k5) + 1) 2) / 5 * 5) = 0) := (of_decide_eq_false c8)
      replace H := H.2 d10
      refine e_ld (pc' := 36) i86_35 rfl rfl ?_
      refine e_cn (pc' := 38) i86_36 rfl ?_
      obtain ⟨r13, h11, s12, H⟩ := H
      have w15q := HW_sp (show x_okm 109 = true by rfl) s12 hw
      have w15 : HW h11 := w15q.1
      refine e_cI (w := .int r13) (As := [.ref 0, .int (-6)]) (rest := []) (pc' := 41) i86_38 rfl rfl rfl rfl (by show (Nat.beq (x_kd 109) 0 && x_is 0 _ (MC 109) 0) = true; rw [show x_kd 109 = 0 by decide +kernel, show MC 109 = 10 by decide +kernel, (x_isC (by decide) hw.1 sh0)]; rfl) s12 ?_
      refine e_rt i86_41 rfl ?_
      exact H
  · have d15 : ¬ (r2 = 0) := (of_decide_eq_false c3)
    replace H := H.2 d15
    refine e_ld (pc' := 11) i86_10 rfl rfl ?_
    refine e_ld (pc' := 12) i86_11 rfl rfl ?_
    obtain ⟨r18, h16, s17, H⟩ := H
    have w20q := HW_sp (show x_okm 109 = true by rfl) s17 hw
    have w20 : HW h16 := w20q.1
    refine e_cI (w := .int r18) (As := [.ref 0, .int r2]) (rest := []) (pc' := 15) i86_12 rfl rfl rfl rfl (by show (Nat.beq (x_kd 109) 0 && x_is 0 _ (MC 109) 0) = true; rw [show x_kd 109 = 0 by decide +kernel, show MC 109 = 10 by decide +kernel, (x_isC (by decide) hw.1 sh0)]; rfl) s17 ?_
    refine e_rt i86_15 rfl ?_
    exact H
set_option maxHeartbeats 8000000 in
set_option maxRecDepth 100000 in
theorem v86_53 {L : Nat} {xs : Nat → Int32} {Q : Option Value → Hp → Prop} {h : Hp} {z1 : Option Value} {z2 : Option Value} {b3 : Nat} {l4 : Int32} {l5 : Int32} {z6 : Option Value} (hw : HW h) (hb3 : SB b3)
  (H : ((l4 ≤ l5) → (WP L xs 86 86 [some (.ref 0), z1, z2, some (.ref (b3 + 1)), some (.int l4), some (.int 0), z6] [] h Q)) ∧ (¬ (l4 ≤ l5) → (∃ (r5 : Int32), Sp L xs 113 [.ref 0, .ref (b3 + 1), .int l5] h (some (.int r5)) h ∧ ((r5 = 0) → (∃ (r11 : Int32) (h9 : Hp), Sp L xs 109 [.ref 0, .int (-6)] h (some (.int r11)) h9 ∧ Q (some (.int r11)) h9)) ∧ (¬ (r5 = 0) → (WP L xs 86 53 [some (.ref 0), z1, z2, some (.ref (b3 + 1)), some (.int l4), some (.int (l5 + 1)), z6] [] h Q))))) : WP L xs 86 53 [some (.ref 0), z1, z2, some (.ref (b3 + 1)), some (.int l4), some (.int l5), z6] [] h Q := by
  refine e_ld (pc' := 55) i86_53 rfl rfl ?_
  refine e_ld (pc' := 57) i86_55 rfl rfl ?_
  refine e_ic (pc' := 60) i86_57 rfl (fun c1 => ?_) (fun c1 => ?_)
  · have d2 : l4 ≤ l5 := (of_decide_eq_true c1)
    replace H := H.1 d2
    refine e_cn (pc' := 84) i86_83 rfl ?_
    refine e_st (ls' := [some (.ref 0), z1, z2, some (.ref (b3 + 1)), some (.int l4), some (.int 0), z6]) (pc' := 86) i86_84 rfl rfl rfl ?_
    exact H
  · have d3 : ¬ (l4 ≤ l5) := (of_decide_eq_false c1)
    replace H := H.2 d3
    refine e_ld (pc' := 61) i86_60 rfl rfl ?_
    refine e_ld (pc' := 62) i86_61 rfl rfl ?_
    refine e_ld (pc' := 64) i86_62 rfl rfl ?_
    obtain ⟨r5, s4, H⟩ := H
    refine e_cI (w := .int r5) (As := [.ref 0, .ref (b3 + 1), .int l5]) (rest := []) (pc' := 67) i86_64 rfl rfl rfl rfl (by show (Nat.beq (x_kd 113) 0 && x_is 0 _ (MC 113) 0) = true; rw [show x_kd 113 = 0 by decide +kernel, show MC 113 = 10 by decide +kernel, (x_isC (by decide) hw.1 sh0)]; rfl) s4 ?_
    refine e_if (pc' := 70) i86_67 rfl (fun c6 => ?_) (fun c6 => ?_)
    · have d7 : ¬ (r5 = 0) := (of_decide_eq_true c6)
      replace H := H.2 d7
      refine e_inc (z := l5 + 1) (ls' := [some (.ref 0), z1, z2, some (.ref (b3 + 1)), some (.int l4), some (.int (l5 + 1)), z6]) (pc' := 80) i86_77 rfl rfl rfl rfl ?_
      refine e_go i86_80 ?_
      exact H
    · have d8 : r5 = 0 := (Decidable.not_not.mp (of_decide_eq_false c6))
      replace H := H.1 d8
      refine e_ld (pc' := 71) i86_70 rfl rfl ?_
      refine e_cn (pc' := 73) i86_71 rfl ?_
      obtain ⟨r11, h9, s10, H⟩ := H
      have w13q := HW_sp (show x_okm 109 = true by rfl) s10 hw
      have w13 : HW h9 := w13q.1
      refine e_cI (w := .int r11) (As := [.ref 0, .int (-6)]) (rest := []) (pc' := 76) i86_73 rfl rfl rfl rfl (by show (Nat.beq (x_kd 109) 0 && x_is 0 _ (MC 109) 0) = true; rw [show x_kd 109 = 0 by decide +kernel, show MC 109 = 10 by decide +kernel, (x_isC (by decide) hw.1 sh0)]; rfl) s10 ?_
      refine e_rt i86_76 rfl ?_
      exact H
set_option maxHeartbeats 8000000 in
set_option maxRecDepth 100000 in
theorem v86_86 {L : Nat} {xs : Nat → Int32} {Q : Option Value → Hp → Prop} {h : Hp} {z1 : Option Value} {z2 : Option Value} {b3 : Nat} {l4 : Int32} {l5 : Int32} {z6 : Option Value} (hw : HW h) (hb3 : SB b3)
  (H : ((l4 ≤ l5) → (Q (some (.int l4)) h)) ∧ (¬ (l4 ≤ l5) → (∃ (r5 : Int32), Sp L xs 80 [.ref (b3 + 1), .int (5 * l5)] h (some (.int r5)) h ∧ ∃ (r7 : Int32), Sp L xs 80 [.ref (b3 + 1), .int ((5 * l5) + 1)] h (some (.int r7)) h ∧ ∃ (r9 : Int32), Sp L xs 80 [.ref (b3 + 1), .int ((5 * l5) + 2)] h (some (.int r9)) h ∧ ∃ (r11 : Int32), Sp L xs 80 [.ref (b3 + 1), .int ((5 * l5) + 3)] h (some (.int r11)) h ∧ ∃ (r13 : Int32), Sp L xs 80 [.ref (b3 + 1), .int ((5 * l5) + 4)] h (some (.int r13)) h ∧ ∃ (h14 : Hp), Sp L xs 14 [.ref 4, .int r5, .int r7, .int r9, .int r11, .int r13] h none h14 ∧ WP L xs 86 86 [some (.ref 0), z1, z2, some (.ref (b3 + 1)), some (.int l4), some (.int (l5 + 1)), some (.int (5 * l5))] [] h14 Q))) : WP L xs 86 86 [some (.ref 0), z1, z2, some (.ref (b3 + 1)), some (.int l4), some (.int l5), z6] [] h Q := by
  refine e_ld (pc' := 88) i86_86 rfl rfl ?_
  refine e_ld (pc' := 90) i86_88 rfl rfl ?_
  refine e_ic (pc' := 93) i86_90 rfl (fun c1 => ?_) (fun c1 => ?_)
  · have d2 : l4 ≤ l5 := (of_decide_eq_true c1)
    replace H := H.1 d2
    refine e_ld (pc' := 152) i86_150 rfl rfl ?_
    refine e_rt i86_152 rfl ?_
    exact H
  · have d3 : ¬ (l4 ≤ l5) := (of_decide_eq_false c1)
    replace H := H.2 d3
    refine e_cn (pc' := 94) i86_93 rfl ?_
    refine e_ld (pc' := 96) i86_94 rfl rfl ?_
    refine e_ib (z := 5 * l5) (pc' := 97) i86_96 rfl rfl ?_
    refine e_st (ls' := [some (.ref 0), z1, z2, some (.ref (b3 + 1)), some (.int l4), some (.int l5), some (.int (5 * l5))]) (pc' := 99) i86_97 rfl rfl rfl ?_
    refine e_ld (pc' := 100) i86_99 rfl rfl ?_
    refine e_get (w := .ref 4) (pc' := 103) i86_100 rfl (x_isC (by decide) hw.1 sh0) (x_fvR (by decide +kernel) (hw.2 0 2 4 lk0_2)) ?_
    refine e_ld (pc' := 104) i86_103 rfl rfl ?_
    refine e_ld (pc' := 106) i86_104 rfl rfl ?_
    obtain ⟨r5, s4, H⟩ := H
    refine e_cI (w := .int r5) (As := [.ref (b3 + 1), .int (5 * l5)]) (rest := [.ref 4]) (pc' := 109) i86_106 rfl rfl rfl rfl (by show (Nat.beq (x_kd 80) 0 && x_is (b3 + 1) _ (MC 80) 0) = true; rw [show x_kd 80 = 0 by decide +kernel, show MC 80 = 8 by decide +kernel, (x_isB1 hb3 hw.1)]; rfl) s4 ?_
    refine e_ld (pc' := 110) i86_109 rfl rfl ?_
    refine e_ld (pc' := 112) i86_110 rfl rfl ?_
    refine e_cn (pc' := 113) i86_112 rfl ?_
    refine e_ib (z := (5 * l5) + 1) (pc' := 114) i86_113 rfl rfl ?_
    obtain ⟨r7, s6, H⟩ := H
    refine e_cI (w := .int r7) (As := [.ref (b3 + 1), .int ((5 * l5) + 1)]) (rest := [.int r5, .ref 4]) (pc' := 117) i86_114 rfl rfl rfl rfl (by show (Nat.beq (x_kd 80) 0 && x_is (b3 + 1) _ (MC 80) 0) = true; rw [show x_kd 80 = 0 by decide +kernel, show MC 80 = 8 by decide +kernel, (x_isB1 hb3 hw.1)]; rfl) s6 ?_
    refine e_ld (pc' := 118) i86_117 rfl rfl ?_
    refine e_ld (pc' := 120) i86_118 rfl rfl ?_
    refine e_cn (pc' := 121) i86_120 rfl ?_
    refine e_ib (z := (5 * l5) + 2) (pc' := 122) i86_121 rfl rfl ?_
    obtain ⟨r9, s8, H⟩ := H
    refine e_cI (w := .int r9) (As := [.ref (b3 + 1), .int ((5 * l5) + 2)]) (rest := [.int r7, .int r5, .ref 4]) (pc' := 125) i86_122 rfl rfl rfl rfl (by show (Nat.beq (x_kd 80) 0 && x_is (b3 + 1) _ (MC 80) 0) = true; rw [show x_kd 80 = 0 by decide +kernel, show MC 80 = 8 by decide +kernel, (x_isB1 hb3 hw.1)]; rfl) s8 ?_
    refine e_ld (pc' := 126) i86_125 rfl rfl ?_
    refine e_ld (pc' := 128) i86_126 rfl rfl ?_
    refine e_cn (pc' := 129) i86_128 rfl ?_
    refine e_ib (z := (5 * l5) + 3) (pc' := 130) i86_129 rfl rfl ?_
    obtain ⟨r11, s10, H⟩ := H
    refine e_cI (w := .int r11) (As := [.ref (b3 + 1), .int ((5 * l5) + 3)]) (rest := [.int r9, .int r7, .int r5, .ref 4]) (pc' := 133) i86_130 rfl rfl rfl rfl (by show (Nat.beq (x_kd 80) 0 && x_is (b3 + 1) _ (MC 80) 0) = true; rw [show x_kd 80 = 0 by decide +kernel, show MC 80 = 8 by decide +kernel, (x_isB1 hb3 hw.1)]; rfl) s10 ?_
    refine e_ld (pc' := 134) i86_133 rfl rfl ?_
    refine e_ld (pc' := 136) i86_134 rfl rfl ?_
    refine e_cn (pc' := 137) i86_136 rfl ?_
    refine e_ib (z := (5 * l5) + 4) (pc' := 138) i86_137 rfl rfl ?_
    obtain ⟨r13, s12, H⟩ := H
    refine e_cI (w := .int r13) (As := [.ref (b3 + 1), .int ((5 * l5) + 4)]) (rest := [.int r11, .int r9, .int r7, .int r5, .ref 4]) (pc' := 141) i86_138 rfl rfl rfl rfl (by show (Nat.beq (x_kd 80) 0 && x_is (b3 + 1) _ (MC 80) 0) = true; rw [show x_kd 80 = 0 by decide +kernel, show MC 80 = 8 by decide +kernel, (x_isB1 hb3 hw.1)]; rfl) s12 ?_
    obtain ⟨h14, s15, H⟩ := H
    have w17q := HW_sp (show x_okm 14 = true by rfl) s15 hw
    have w17 : HW h14 := w17q.1
    refine e_cV (As := [.ref 4, .int r5, .int r7, .int r9, .int r11, .int r13]) (rest := []) (pc' := 144) i86_141 rfl rfl rfl rfl (by show (Nat.beq (x_kd 14) 0 && x_is 4 _ (MC 14) 0) = true; rw [show x_kd 14 = 0 by decide +kernel, show MC 14 = 2 by decide +kernel, (x_isC (by decide) hw.1 sh4)]; rfl) s15 ?_
    refine e_inc (z := l5 + 1) (ls' := [some (.ref 0), z1, z2, some (.ref (b3 + 1)), some (.int l4), some (.int (l5 + 1)), some (.int (5 * l5))]) (pc' := 147) i86_144 rfl rfl rfl rfl ?_
    refine e_go i86_147 ?_
    exact H
-- FloorTurn.raze(I)I
set_option maxHeartbeats 8000000 in
set_option maxRecDepth 100000 in
theorem v87 {L : Nat} {xs : Nat → Int32} {Q : Option Value → Hp → Prop} {h : Hp} {x : Int32} (hw : HW h) 
  (H : (((x_isCell x) = true) → (∃ k3 : Nat, x = nI k3 ∧ k3 < 144 ∧ ∃ (h6 : Hp), Sp L xs 26 [.ref (10 + k3), .int 0, .int 0, .int 0, .int 0, .null] h none h6 ∧ Q (some (.int (gI h (10 + k3) 0))) h6)) ∧ (¬ ((x_isCell x) = true) → (∃ (r12 : Int32) (h10 : Hp), Sp L xs 109 [.ref 0, .int (-1)] h (some (.int r12)) h10 ∧ Q (some (.int r12)) h10))) : ∃ r h', Sp L xs 87 [.ref 0, .int x] h r h' ∧ Q r h' := by
  refine sp_ex (ls := [some (.ref 0), some (.int x), none]) rfl ?_
  refine e_ld (pc' := 1) i87_0 rfl rfl ?_
  refine e_cI (w := .int (b2i (x_isCell x))) (As := [.int x]) (rest := []) (pc' := 4) i87_1 rfl rfl rfl rfl rfl m115 ?_
  refine e_b1 (pc' := 7) i87_4 rfl (fun c1 => ?_) (fun c1 => ?_)
  · have d2 : (x_isCell x) = true := c1
    replace H := H.1 d2
    refine e_ld (pc' := 14) i87_13 rfl rfl ?_
    refine e_get (w := .ref 4) (pc' := 17) i87_14 rfl (x_isC (by decide) hw.1 sh0) (x_fvR (by decide +kernel) (hw.2 0 2 4 lk0_2)) ?_
    refine e_get (w := .ref 5) (pc' := 20) i87_17 rfl (x_isC (by decide) hw.1 sh4) (x_fvR (by decide +kernel) (hw.2 4 1 5 lk4_1)) ?_
    refine e_ld (pc' := 21) i87_20 rfl rfl ?_
    obtain ⟨k3, e4, g5, H⟩ := H
    refine e_al (n := k3) (w := .ref (10 + k3)) (pc' := 22) i87_21 rfl (x_alE (a := 23) (by decide) hw.1 sh5 (by decide) e4 g5 (by decide)) (x_clE e4 g5 (by decide)) (x_agR (hw.2 _ _ _ (LK_p4 g5))) ?_
    refine e_get (w := .int (gI h (10 + k3) 0)) (pc' := 25) i87_22 rfl (x_isP (PT_4 g5) hw.1) rfl ?_
    refine e_st (ls' := [some (.ref 0), some (.int x), some (.int (gI h (10 + k3) 0))]) (pc' := 26) i87_25 rfl rfl rfl ?_
    refine e_ld (pc' := 27) i87_26 rfl rfl ?_
    refine e_get (w := .ref 4) (pc' := 30) i87_27 rfl (x_isC (by decide) hw.1 sh0) (x_fvR (by decide +kernel) (hw.2 0 2 4 lk0_2)) ?_
    refine e_get (w := .ref 5) (pc' := 33) i87_30 rfl (x_isC (by decide) hw.1 sh4) (x_fvR (by decide +kernel) (hw.2 4 1 5 lk4_1)) ?_
    refine e_ld (pc' := 34) i87_33 rfl rfl ?_
    refine e_al (n := k3) (w := .ref (10 + k3)) (pc' := 35) i87_34 rfl (x_alE (a := 23) (by decide) hw.1 sh5 (by decide) e4 g5 (by decide)) (x_clE e4 g5 (by decide)) (x_agR (hw.2 _ _ _ (LK_p4 g5))) ?_
    refine e_cn (pc' := 36) i87_35 rfl ?_
    refine e_cn (pc' := 37) i87_36 rfl ?_
    refine e_cn (pc' := 38) i87_37 rfl ?_
    refine e_cn (pc' := 39) i87_38 rfl ?_
    refine e_cn (pc' := 40) i87_39 rfl ?_
    obtain ⟨h6, s7, H⟩ := H
    have w9q := HW_sp (show x_okm 26 = true by rfl) s7 hw
    have w9 : HW h6 := w9q.1
    refine e_cV (As := [.ref (10 + k3), .int 0, .int 0, .int 0, .int 0, .null]) (rest := []) (pc' := 43) i87_40 rfl rfl rfl rfl (by show (Nat.beq (x_kd 26) 0 && x_is (10 + k3) _ (MC 26) 0) = true; rw [show x_kd 26 = 0 by decide +kernel, show MC 26 = 3 by decide +kernel, (x_isP (PT_4 g5) hw.1)]; rfl) s7 ?_
    refine e_ld (pc' := 44) i87_43 rfl rfl ?_
    refine e_rt i87_44 rfl ?_
    exact H
  · have d9 : ¬ ((x_isCell x) = true) := (show ¬ (x_isCell x) = true by rw [c1]; decide)
    replace H := H.2 d9
    refine e_ld (pc' := 8) i87_7 rfl rfl ?_
    refine e_cn (pc' := 9) i87_8 rfl ?_
    obtain ⟨r12, h10, s11, H⟩ := H
    have w14q := HW_sp (show x_okm 109 = true by rfl) s11 hw
    have w14 : HW h10 := w14q.1
    refine e_cI (w := .int r12) (As := [.ref 0, .int (-1)]) (rest := []) (pc' := 12) i87_9 rfl rfl rfl rfl (by show (Nat.beq (x_kd 109) 0 && x_is 0 _ (MC 109) 0) = true; rw [show x_kd 109 = 0 by decide +kernel, show MC 109 = 10 by decide +kernel, (x_isC (by decide) hw.1 sh0)]; rfl) s11 ?_
    refine e_rt i87_12 rfl ?_
    exact H
-- FloorTurn.row(III)I
set_option maxHeartbeats 8000000 in
set_option maxRecDepth 100000 in
theorem v88 {L : Nat} {xs : Nat → Int32} {Q : Option Value → Hp → Prop} {h : Hp} {x : Int32} {y : Int32} {z : Int32} (hw : HW h) 
  (H : (((x_isShelf x) = true) → (((0 ≤ z) → ((((x_in3 y 0 3) = true) → (((z ≤ 100) → (∃ k9 : Nat, x = nI k9 ∧ k9 < 8 ∧ ∃ (h12 : Hp), Sp L xs 82 [.ref (155 + 10 * k9), .int y, .int z] h none h12 ∧ Q (some (.int 1)) h12)) ∧ (¬ (z ≤ 100) → (∃ (r18 : Int32) (h16 : Hp), Sp L xs 109 [.ref 0, .int (-7)] h (some (.int r18)) h16 ∧ Q (some (.int r18)) h16)))) ∧ (¬ ((x_in3 y 0 3) = true) → (∃ (r23 : Int32) (h21 : Hp), Sp L xs 109 [.ref 0, .int (-6)] h (some (.int r23)) h21 ∧ Q (some (.int r23)) h21)))) ∧ (¬ (0 ≤ z) → (∃ (r28 : Int32) (h26 : Hp), Sp L xs 109 [.ref 0, .int (-4)] h (some (.int r28)) h26 ∧ Q (some (.int r28)) h26)))) ∧ (¬ ((x_isShelf x) = true) → (∃ (r33 : Int32) (h31 : Hp), Sp L xs 109 [.ref 0, .int (-1)] h (some (.int r33)) h31 ∧ Q (some (.int r33)) h31))) : ∃ r h', Sp L xs 88 [.ref 0, .int x, .int y, .int z] h r h' ∧ Q r h' := by
  refine sp_ex (ls := [some (.ref 0), some (.int x), some (.int y), some (.int z)]) rfl ?_
  refine e_ld (pc' := 1) i88_0 rfl rfl ?_
  refine e_cI (w := .int (b2i (x_isShelf x))) (As := [.int x]) (rest := []) (pc' := 4) i88_1 rfl rfl rfl rfl rfl m116 ?_
  refine e_b1 (pc' := 7) i88_4 rfl (fun c1 => ?_) (fun c1 => ?_)
  · have d2 : (x_isShelf x) = true := c1
    replace H := H.1 d2
    refine e_ld (pc' := 14) i88_13 rfl rfl ?_
    refine e_if (pc' := 17) i88_14 rfl (fun c3 => ?_) (fun c3 => ?_)
    · have d4 : 0 ≤ z := (of_decide_eq_true c3)
      replace H := H.1 d4
      refine e_ld (pc' := 25) i88_24 rfl rfl ?_
      refine e_cn (pc' := 26) i88_25 rfl ?_
      refine e_cn (pc' := 27) i88_26 rfl ?_
      refine e_cI (w := .int (b2i (x_in3 y 0 3))) (As := [.int y, .int 0, .int 3]) (rest := []) (pc' := 30) i88_27 rfl rfl rfl rfl rfl m114 ?_
      refine e_b1 (pc' := 33) i88_30 rfl (fun c5 => ?_) (fun c5 => ?_)
      · have d6 : (x_in3 y 0 3) = true := c5
        replace H := H.1 d6
        refine e_ld (pc' := 41) i88_40 rfl rfl ?_
        refine e_cn (pc' := 43) i88_41 rfl ?_
        refine e_ic (pc' := 46) i88_43 rfl (fun c7 => ?_) (fun c7 => ?_)
        · have d8 : z ≤ 100 := (of_decide_eq_true c7)
          replace H := H.1 d8
          refine e_ld (pc' := 54) i88_53 rfl rfl ?_
          refine e_get (w := .ref 154) (pc' := 57) i88_54 rfl (x_isC (by decide) hw.1 sh0) (x_fvR (by decide +kernel) (hw.2 0 3 154 lk0_3)) ?_
          refine e_ld (pc' := 58) i88_57 rfl rfl ?_
          obtain ⟨k9, e10, g11, H⟩ := H
          refine e_al (n := k9) (w := .ref (155 + 10 * k9)) (pc' := 59) i88_58 rfl (x_alE (a := 23) (by decide) hw.1 sh154 (by decide) e10 g11 (by decide)) (x_clE e10 g11 (by decide)) (x_agR (hw.2 _ _ _ (LK_s g11))) ?_
          refine e_ld (pc' := 60) i88_59 rfl rfl ?_
          refine e_ld (pc' := 61) i88_60 rfl rfl ?_
          obtain ⟨h12, s13, H⟩ := H
          have w15q := HW_sp (show x_okm 82 = true by rfl) s13 hw
          have w15 : HW h12 := w15q.1
          refine e_cV (As := [.ref (155 + 10 * k9), .int y, .int z]) (rest := []) (pc' := 64) i88_61 rfl rfl rfl rfl (by show (Nat.beq (x_kd 82) 0 && x_is (155 + 10 * k9) _ (MC 82) 0) = true; rw [show x_kd 82 = 0 by decide +kernel, show MC 82 = 9 by decide +kernel, (x_isB0 (SB_of g11) hw.1)]; rfl) s13 ?_
          refine e_cn (pc' := 65) i88_64 rfl ?_
          refine e_rt i88_65 rfl ?_
          exact H
        · have d15 : ¬ (z ≤ 100) := (of_decide_eq_false c7)
          replace H := H.2 d15
          refine e_ld (pc' := 47) i88_46 rfl rfl ?_
          refine e_cn (pc' := 49) i88_47 rfl ?_
          obtain ⟨r18, h16, s17, H⟩ := H
          have w20q := HW_sp (show x_okm 109 = true by rfl) s17 hw
          have w20 : HW h16 := w20q.1
          refine e_cI (w := .int r18) (As := [.ref 0, .int (-7)]) (rest := []) (pc' := 52) i88_49 rfl rfl rfl rfl (by show (Nat.beq (x_kd 109) 0 && x_is 0 _ (MC 109) 0) = true; rw [show x_kd 109 = 0 by decide +kernel, show MC 109 = 10 by decide +kernel, (x_isC (by decide) hw.1 sh0)]; rfl) s17 ?_
          refine e_rt i88_52 rfl ?_
          exact H
      · have d20 : ¬ ((x_in3 y 0 3) = true) := (show ¬ (x_in3 y 0 3) = true by rw [c5]; decide)
        replace H := H.2 d20
        refine e_ld (pc' := 34) i88_33 rfl rfl ?_
        refine e_cn (pc' := 36) i88_34 rfl ?_
        obtain ⟨r23, h21, s22, H⟩ := H
        have w25q := HW_sp (show x_okm 109 = true by rfl) s22 hw
        have w25 : HW h21 := w25q.1
        refine e_cI (w := .int r23) (As := [.ref 0, .int (-6)]) (rest := []) (pc' := 39) i88_36 rfl rfl rfl rfl (by show (Nat.beq (x_kd 109) 0 && x_is 0 _ (MC 109) 0) = true; rw [show x_kd 109 = 0 by decide +kernel, show MC 109 = 10 by decide +kernel, (x_isC (by decide) hw.1 sh0)]; rfl) s22 ?_
        refine e_rt i88_39 rfl ?_
        exact H
    · have d25 : ¬ (0 ≤ z) := (of_decide_eq_false c3)
      replace H := H.2 d25
      refine e_ld (pc' := 18) i88_17 rfl rfl ?_
      refine e_cn (pc' := 20) i88_18 rfl ?_
      obtain ⟨r28, h26, s27, H⟩ := H
      have w30q := HW_sp (show x_okm 109 = true by rfl) s27 hw
      have w30 : HW h26 := w30q.1
      refine e_cI (w := .int r28) (As := [.ref 0, .int (-4)]) (rest := []) (pc' := 23) i88_20 rfl rfl rfl rfl (by show (Nat.beq (x_kd 109) 0 && x_is 0 _ (MC 109) 0) = true; rw [show x_kd 109 = 0 by decide +kernel, show MC 109 = 10 by decide +kernel, (x_isC (by decide) hw.1 sh0)]; rfl) s27 ?_
      refine e_rt i88_23 rfl ?_
      exact H
  · have d30 : ¬ ((x_isShelf x) = true) := (show ¬ (x_isShelf x) = true by rw [c1]; decide)
    replace H := H.2 d30
    refine e_ld (pc' := 8) i88_7 rfl rfl ?_
    refine e_cn (pc' := 9) i88_8 rfl ?_
    obtain ⟨r33, h31, s32, H⟩ := H
    have w35q := HW_sp (show x_okm 109 = true by rfl) s32 hw
    have w35 : HW h31 := w35q.1
    refine e_cI (w := .int r33) (As := [.ref 0, .int (-1)]) (rest := []) (pc' := 12) i88_9 rfl rfl rfl rfl (by show (Nat.beq (x_kd 109) 0 && x_is 0 _ (MC 109) 0) = true; rw [show x_kd 109 = 0 by decide +kernel, show MC 109 = 10 by decide +kernel, (x_isC (by decide) hw.1 sh0)]; rfl) s32 ?_
    refine e_rt i88_12 rfl ?_
    exact H
-- FloorTurn.set(IIJ)I
set_option maxHeartbeats 8000000 in
set_option maxRecDepth 100000 in
theorem v89 {L : Nat} {xs : Nat → Int32} {Q : Option Value → Hp → Prop} {h : Hp} {x : Int32} {y : Int32} {z : Int64} (hw : HW h) 
  (H : ∃ (r2 : Int32), Sp L xs 110 [.ref 0, .int x] h (some (.int r2)) h ∧ ((r2 = 0) → (∃ k5 : Nat, x = nI k5 ∧ k5 < 8 ∧ ∃ (r9 : Int32), Sp L xs 78 [.ref ((155 + 10 * k5) + 1), .int y, .int 1] h (some (.int r9)) h ∧ ((r9 = 0) → (∃ (r18 : Int32) (h16 : Hp), Sp L xs 109 [.ref 0, .int (-5)] h (some (.int r18)) h16 ∧ Q (some (.int r18)) h16)) ∧ (¬ (r9 = 0) → (∃ (h12 : Hp), Sp L xs 79 [.ref ((155 + 10 * k5) + 1), .int y, .long z] h none h12 ∧ Q (some (.int 1)) h12)))) ∧ (¬ (r2 = 0) → (∃ (r23 : Int32) (h21 : Hp), Sp L xs 109 [.ref 0, .int r2] h (some (.int r23)) h21 ∧ Q (some (.int r23)) h21))) : ∃ r h', Sp L xs 89 [.ref 0, .int x, .int y, .long z] h r h' ∧ Q r h' := by
  refine sp_ex (ls := [some (.ref 0), some (.int x), some (.int y), some (.long z), none, none, none]) rfl ?_
  refine e_ld (pc' := 1) i89_0 rfl rfl ?_
  refine e_ld (pc' := 2) i89_1 rfl rfl ?_
  obtain ⟨r2, s1, H⟩ := H
  refine e_cI (w := .int r2) (As := [.ref 0, .int x]) (rest := []) (pc' := 5) i89_2 rfl rfl rfl rfl (by show (Nat.beq (x_kd 110) 0 && x_is 0 _ (MC 110) 0) = true; rw [show x_kd 110 = 0 by decide +kernel, show MC 110 = 10 by decide +kernel, (x_isC (by decide) hw.1 sh0)]; rfl) s1 ?_
  refine e_st (ls' := [some (.ref 0), some (.int x), some (.int y), some (.long z), none, some (.int r2), none]) (pc' := 7) i89_5 rfl rfl rfl ?_
  refine e_ld (pc' := 9) i89_7 rfl rfl ?_
  refine e_if (pc' := 12) i89_9 rfl (fun c3 => ?_) (fun c3 => ?_)
  · have d4 : r2 = 0 := (of_decide_eq_true c3)
    replace H := H.1 d4
    refine e_ld (pc' := 20) i89_19 rfl rfl ?_
    refine e_get (w := .ref 154) (pc' := 23) i89_20 rfl (x_isC (by decide) hw.1 sh0) (x_fvR (by decide +kernel) (hw.2 0 3 154 lk0_3)) ?_
    refine e_ld (pc' := 24) i89_23 rfl rfl ?_
    obtain ⟨k5, e6, g7, H⟩ := H
    refine e_al (n := k5) (w := .ref (155 + 10 * k5)) (pc' := 25) i89_24 rfl (x_alE (a := 23) (by decide) hw.1 sh154 (by decide) e6 g7 (by decide)) (x_clE e6 g7 (by decide)) (x_agR (hw.2 _ _ _ (LK_s g7))) ?_
    refine e_get (w := .ref ((155 + 10 * k5) + 1)) (pc' := 28) i89_25 rfl (x_isB0 (SB_of g7) hw.1) (x_fvR (by decide +kernel) (hw.2 _ _ _ (SB_lk0_0 (SB_of g7)))) ?_
    refine e_st (ls' := [some (.ref 0), some (.int x), some (.int y), some (.long z), none, some (.int r2), some (.ref ((155 + 10 * k5) + 1))]) (pc' := 30) i89_28 rfl rfl rfl ?_
    refine e_ld (pc' := 32) i89_30 rfl rfl ?_
    refine e_ld (pc' := 33) i89_32 rfl rfl ?_
    refine e_cn (pc' := 34) i89_33 rfl ?_
    obtain ⟨r9, s8, H⟩ := H
    refine e_cI (w := .int r9) (As := [.ref ((155 + 10 * k5) + 1), .int y, .int 1]) (rest := []) (pc' := 37) i89_34 rfl rfl rfl rfl (by show (Nat.beq (x_kd 78) 0 && x_is ((155 + 10 * k5) + 1) _ (MC 78) 0) = true; rw [show x_kd 78 = 0 by decide +kernel, show MC 78 = 8 by decide +kernel, (x_isB1 (SB_of g7) hw.1)]; rfl) s8 ?_
    refine e_if (pc' := 40) i89_37 rfl (fun c10 => ?_) (fun c10 => ?_)
    · have d11 : ¬ (r9 = 0) := (of_decide_eq_true c10)
      replace H := H.2 d11
      refine e_ld (pc' := 49) i89_47 rfl rfl ?_
      refine e_ld (pc' := 50) i89_49 rfl rfl ?_
      refine e_ld (pc' := 51) i89_50 rfl rfl ?_
      obtain ⟨h12, s13, H⟩ := H
      have w15q := HW_sp (show x_okm 79 = true by rfl) s13 hw
      have w15 : HW h12 := w15q.1
      refine e_cV (As := [.ref ((155 + 10 * k5) + 1), .int y, .long z]) (rest := []) (pc' := 54) i89_51 rfl rfl rfl rfl (by show (Nat.beq (x_kd 79) 0 && x_is ((155 + 10 * k5) + 1) _ (MC 79) 0) = true; rw [show x_kd 79 = 0 by decide +kernel, show MC 79 = 8 by decide +kernel, (x_isB1 (SB_of g7) hw.1)]; rfl) s13 ?_
      refine e_cn (pc' := 55) i89_54 rfl ?_
      refine e_rt i89_55 rfl ?_
      exact H
    · have d15 : r9 = 0 := (Decidable.not_not.mp (of_decide_eq_false c10))
      replace H := H.1 d15
      refine e_ld (pc' := 41) i89_40 rfl rfl ?_
      refine e_cn (pc' := 43) i89_41 rfl ?_
      obtain ⟨r18, h16, s17, H⟩ := H
      have w20q := HW_sp (show x_okm 109 = true by rfl) s17 hw
      have w20 : HW h16 := w20q.1
      refine e_cI (w := .int r18) (As := [.ref 0, .int (-5)]) (rest := []) (pc' := 46) i89_43 rfl rfl rfl rfl (by show (Nat.beq (x_kd 109) 0 && x_is 0 _ (MC 109) 0) = true; rw [show x_kd 109 = 0 by decide +kernel, show MC 109 = 10 by decide +kernel, (x_isC (by decide) hw.1 sh0)]; rfl) s17 ?_
      refine e_rt i89_46 rfl ?_
      exact H
  · have d20 : ¬ (r2 = 0) := (of_decide_eq_false c3)
    replace H := H.2 d20
    refine e_ld (pc' := 13) i89_12 rfl rfl ?_
    refine e_ld (pc' := 15) i89_13 rfl rfl ?_
    obtain ⟨r23, h21, s22, H⟩ := H
    have w25q := HW_sp (show x_okm 109 = true by rfl) s22 hw
    have w25 : HW h21 := w25q.1
    refine e_cI (w := .int r23) (As := [.ref 0, .int r2]) (rest := []) (pc' := 18) i89_15 rfl rfl rfl rfl (by show (Nat.beq (x_kd 109) 0 && x_is 0 _ (MC 109) 0) = true; rw [show x_kd 109 = 0 by decide +kernel, show MC 109 = 10 by decide +kernel, (x_isC (by decide) hw.1 sh0)]; rfl) s22 ?_
    refine e_rt i89_18 rfl ?_
    exact H
