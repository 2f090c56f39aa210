/-! Conditions of methods (made by wip/whole/vcmake.py). -/
-- FloorTurnModel.step(I)V
set_option maxHeartbeats 8000000 in
set_option maxRecDepth 100000 in
theorem v162 {L : Nat} {xs : Nat → Int32} {Q : Option Value → Hp → Prop} {h : Hp} {x : Int32} (hw : HW h) 
  (H : WP L xs 162 2 [some (.ref 397), some (.int x), some (.int 0), none, none, none, none] [] h Q) : ∃ r h', Sp L xs 162 [.ref 397, .int x] h r h' ∧ Q r h' := by
  refine sp_ex (ls := [some (.ref 397), some (.int x), none, none, none, none, none]) rfl ?_
  refine e_cn (pc' := 1) i162_0 rfl ?_
  refine e_st (ls' := [some (.ref 397), some (.int x), some (.int 0), none, none, none, none]) (pc' := 2) i162_1 rfl rfl rfl ?_
  exact H
set_option maxHeartbeats 8000000 in
set_option maxRecDepth 100000 in
theorem v162_2 {L : Nat} {xs : Nat → Int32} {Q : Option Value → Hp → Prop} {h : Hp} {l1 : Int32} {l2 : Int32} {z3 : Option Value} {z4 : Option Value} {z5 : Option Value} {z6 : Option Value} (hw : HW h) 
  (H : ((144 ≤ l2) → (WP L xs 162 115 [some (.ref 397), some (.int l1), some (.int 0), z3, z4, z5, z6] [] h Q)) ∧ (¬ (144 ≤ l2) → (∃ k4 : Nat, l2 = nI k4 ∧ k4 < 144 ∧ (((gI h 405 k4) = 5) → (∃ k17 : Nat, ((144 * l1) + l2) = nI k17 ∧ k17 < 432 ∧ (((gI h 412 k17) = 0) → ((((gI (sI (sI h 427 k4 (-1)) 413 k17 ((gI h 413 k17) + 1)) 413 k17) = (gI h 408 k4)) → (WP L xs 162 2 [some (.ref 397), some (.int l1), some (.int (l2 + 1)), some (.int ((144 * l1) + l2)), z4, z5, z6] [] (sI (sI (sI (sI h 427 k4 (-1)) 413 k17 ((gI h 413 k17) + 1)) 412 k17 (gI h 407 k4)) 413 k17 0) Q)) ∧ (¬ ((gI (sI (sI h 427 k4 (-1)) 413 k17 ((gI h 413 k17) + 1)) 413 k17) = (gI h 408 k4)) → (WP L xs 162 2 [some (.ref 397), some (.int l1), some (.int (l2 + 1)), some (.int ((144 * l1) + l2)), z4, z5, z6] [] (sI (sI h 427 k4 (-1)) 413 k17 ((gI h 413 k17) + 1)) Q)))) ∧ (¬ ((gI h 412 k17) = 0) → ((((gI h 405 k4) = 6) → (∃ (h25 : Hp), Sp L xs 155 [.ref 397, .int l1, .int l2] (sI h 427 k4 (-1)) none h25 ∧ WP L xs 162 2 [some (.ref 397), some (.int l1), some (.int (l2 + 1)), some (.int ((144 * l1) + l2)), z4, z5, z6] [] h25 Q)) ∧ (¬ ((gI h 405 k4) = 6) → (WP L xs 162 2 [some (.ref 397), some (.int l1), some (.int (l2 + 1)), some (.int ((144 * l1) + l2)), z4, z5, z6] [] (sI h 427 k4 (-1)) Q)))))) ∧ (¬ ((gI h 405 k4) = 5) → ((((gI h 405 k4) = 6) → (∃ (h13 : Hp), Sp L xs 155 [.ref 397, .int l1, .int l2] (sI h 427 k4 (-1)) none h13 ∧ WP L xs 162 2 [some (.ref 397), some (.int l1), some (.int (l2 + 1)), some (.int ((144 * l1) + l2)), z4, z5, z6] [] h13 Q)) ∧ (¬ ((gI h 405 k4) = 6) → (WP L xs 162 2 [some (.ref 397), some (.int l1), some (.int (l2 + 1)), some (.int ((144 * l1) + l2)), z4, z5, z6] [] (sI h 427 k4 (-1)) Q))))))) : WP L xs 162 2 [some (.ref 397), some (.int l1), some (.int l2), z3, z4, z5, z6] [] h Q := by
  refine e_ld (pc' := 3) i162_2 rfl rfl ?_
  refine e_cn (pc' := 6) i162_3 rfl ?_
  refine e_ic (pc' := 9) i162_6 rfl (fun c1 => ?_) (fun c1 => ?_)
  · have d2 : 144 ≤ l2 := (of_decide_eq_true c1)
    replace H := H.1 d2
    refine e_cn (pc' := 114) i162_113 rfl ?_
    refine e_st (ls' := [some (.ref 397), some (.int l1), some (.int 0), z3, z4, z5, z6]) (pc' := 115) i162_114 rfl rfl rfl ?_
    exact H
  · have d3 : ¬ (144 ≤ l2) := (of_decide_eq_false c1)
    replace H := H.2 d3
    refine e_cn (pc' := 12) i162_9 rfl ?_
    refine e_ld (pc' := 13) i162_12 rfl rfl ?_
    refine e_ib (z := 144 * l1) (pc' := 14) i162_13 rfl rfl ?_
    refine e_ld (pc' := 15) i162_14 rfl rfl ?_
    refine e_ib (z := (144 * l1) + l2) (pc' := 16) i162_15 rfl rfl ?_
    refine e_st (ls' := [some (.ref 397), some (.int l1), some (.int l2), some (.int ((144 * l1) + l2)), z4, z5, z6]) (pc' := 17) i162_16 rfl rfl rfl ?_
    refine e_ld (pc' := 18) i162_17 rfl rfl ?_
    refine e_get (w := .ref 427) (pc' := 21) i162_18 rfl (x_isC (by decide) hw.1 sh397) (x_fvR (by decide +kernel) (hw.2 397 31 427 lk397_31)) ?_
    refine e_ld (pc' := 22) i162_21 rfl rfl ?_
    refine e_cn (pc' := 23) i162_22 rfl ?_
    obtain ⟨k4, e5, g6, H⟩ := H
    refine e_as (n := k4) (h' := sI h 427 k4 (-1)) (pc' := 24) i162_23 rfl (x_alE (a := 20) (by decide) hw.1 sh427 (by decide) e5 g6 (by decide)) (x_clE e5 g6 (by decide)) (by rw [(show (SH 427).1 = 20 by rw [sh427])]; rfl) ?_
    have w8 : HW (sI h 427 k4 (-1)) := HW_sI hw
    refine e_ld (pc' := 25) i162_24 rfl rfl ?_
    refine e_get (w := .ref 405) (pc' := 28) i162_25 rfl (x_isC (by decide) w8.1 sh397) (x_fvR (by decide +kernel) (w8.2 397 8 405 lk397_8)) ?_
    refine e_ld (pc' := 29) i162_28 rfl rfl ?_
    refine e_al (n := k4) (w := .int (gI h 405 k4)) (pc' := 30) i162_29 rfl (x_alE (a := 20) (by decide) w8.1 sh405 (by decide) e5 g6 (by decide)) (x_clE e5 g6 (by decide)) (congrArg Value.int (gI_osI (by decide))) ?_
    refine e_cn (pc' := 31) i162_30 rfl ?_
    refine e_ic (pc' := 34) i162_31 rfl (fun c8 => ?_) (fun c8 => ?_)
    · have d9 : ¬ ((gI h 405 k4) = 5) := (of_decide_eq_true c8)
      replace H := H.2 d9
      refine e_ld (pc' := 91) i162_90 rfl rfl ?_
      refine e_get (w := .ref 405) (pc' := 94) i162_91 rfl (x_isC (by decide) w8.1 sh397) (x_fvR (by decide +kernel) (w8.2 397 8 405 lk397_8)) ?_
      refine e_ld (pc' := 95) i162_94 rfl rfl ?_
      refine e_al (n := k4) (w := .int (gI h 405 k4)) (pc' := 96) i162_95 rfl (x_alE (a := 20) (by decide) w8.1 sh405 (by decide) e5 g6 (by decide)) (x_clE e5 g6 (by decide)) (congrArg Value.int (gI_osI (by decide))) ?_
      refine e_cn (pc' := 98) i162_96 rfl ?_
      refine e_ic (pc' := 101) i162_98 rfl (fun c10 => ?_) (fun c10 => ?_)
      · have d11 : ¬ ((gI h 405 k4) = 6) := (of_decide_eq_true c10)
        replace H := H.2 d11
        refine e_inc (z := l2 + 1) (ls' := [some (.ref 397), some (.int l1), some (.int (l2 + 1)), some (.int ((144 * l1) + l2)), z4, z5, z6]) (pc' := 110) i162_107 rfl rfl rfl rfl ?_
        refine e_go i162_110 ?_
        exact H
      · have d12 : (gI h 405 k4) = 6 := (Decidable.not_not.mp (of_decide_eq_false c10))
        replace H := H.1 d12
        refine e_ld (pc' := 102) i162_101 rfl rfl ?_
        refine e_ld (pc' := 103) i162_102 rfl rfl ?_
        refine e_ld (pc' := 104) i162_103 rfl rfl ?_
        obtain ⟨h13, s14, H⟩ := H
        have w17q := HW_sp (show x_okm 155 = true by rfl) s14 w8
        have w17 : HW h13 := w17q.1
        refine e_cV (As := [.ref 397, .int l1, .int l2]) (rest := []) (pc' := 107) i162_104 rfl rfl rfl rfl (by show (Nat.beq (x_kd 155) 0 && x_is 397 _ (MC 155) 0) = true; rw [show x_kd 155 = 0 by decide +kernel, show MC 155 = 11 by decide +kernel, (x_isC (by decide) w8.1 sh397)]; rfl) s14 ?_
        refine e_inc (z := l2 + 1) (ls' := [some (.ref 397), some (.int l1), some (.int (l2 + 1)), some (.int ((144 * l1) + l2)), z4, z5, z6]) (pc' := 110) i162_107 rfl rfl rfl rfl ?_
        refine e_go i162_110 ?_
        exact H
    · have d16 : (gI h 405 k4) = 5 := (Decidable.not_not.mp (of_decide_eq_false c8))
      replace H := H.1 d16
      refine e_ld (pc' := 35) i162_34 rfl rfl ?_
      refine e_get (w := .ref 412) (pc' := 38) i162_35 rfl (x_isC (by decide) w8.1 sh397) (x_fvR (by decide +kernel) (w8.2 397 16 412 lk397_16)) ?_
      refine e_ld (pc' := 39) i162_38 rfl rfl ?_
      obtain ⟨k17, e18, g19, H⟩ := H
      refine e_al (n := k17) (w := .int (gI h 412 k17)) (pc' := 40) i162_39 rfl (x_alE (a := 20) (by decide) w8.1 sh412 (by decide) e18 g19 (by decide)) (x_clE e18 g19 (by decide)) (congrArg Value.int (gI_osI (by decide))) ?_
      refine e_if (pc' := 43) i162_40 rfl (fun c20 => ?_) (fun c20 => ?_)
      · have d21 : ¬ ((gI h 412 k17) = 0) := (of_decide_eq_true c20)
        replace H := H.2 d21
        refine e_ld (pc' := 91) i162_90 rfl rfl ?_
        refine e_get (w := .ref 405) (pc' := 94) i162_91 rfl (x_isC (by decide) w8.1 sh397) (x_fvR (by decide +kernel) (w8.2 397 8 405 lk397_8)) ?_
        refine e_ld (pc' := 95) i162_94 rfl rfl ?_
        refine e_al (n := k4) (w := .int (gI h 405 k4)) (pc' := 96) i162_95 rfl (x_alE (a := 20) (by decide) w8.1 sh405 (by decide) e5 g6 (by decide)) (x_clE e5 g6 (by decide)) (congrArg Value.int (gI_osI (by decide))) ?_
        refine e_cn (pc' := 98) i162_96 rfl ?_
        refine e_ic (pc' := 101) i162_98 rfl (fun c22 => ?_) (fun c22 => ?_)
        · have d23 : ¬ ((gI h 405 k4) = 6) := (of_decide_eq_true c22)
          replace H := H.2 d23
          refine e_inc (z := l2 + 1) (ls' := [some (.ref 397), some (.int l1), some (.int (l2 + 1)), some (.int ((144 * l1) + l2)), z4, z5, z6]) (pc' := 110) i162_107 rfl rfl rfl rfl ?_
          refine e_go i162_110 ?_
          exact H
        · have d24 : (gI h 405 k4) = 6 := (Decidable.not_not.mp (of_decide_eq_false c22))
          replace H := H.1 d24
          refine e_ld (pc' := 102) i162_101 rfl rfl ?_
          refine e_ld (pc' := 103) i162_102 rfl rfl ?_
          refine e_ld (pc' := 104) i162_103 rfl rfl ?_
          obtain ⟨h25, s26, H⟩ := H
          have w29q := HW_sp (show x_okm 155 = true by rfl) s26 w8
          have w29 : HW h25 := w29q.1
          refine e_cV (As := [.ref 397, .int l1, .int l2]) (rest := []) (pc' := 107) i162_104 rfl rfl rfl rfl (by show (Nat.beq (x_kd 155) 0 && x_is 397 _ (MC 155) 0) = true; rw [show x_kd 155 = 0 by decide +kernel, show MC 155 = 11 by decide +kernel, (x_isC (by decide) w8.1 sh397)]; rfl) s26 ?_
          refine e_inc (z := l2 + 1) (ls' := [some (.ref 397), some (.int l1), some (.int (l2 + 1)), some (.int ((144 * l1) + l2)), z4, z5, z6]) (pc' := 110) i162_107 rfl rfl rfl rfl ?_
          refine e_go i162_110 ?_
          exact H
      · have d28 : (gI h 412 k17) = 0 := (Decidable.not_not.mp (of_decide_eq_false c20))
        replace H := H.1 d28
        refine e_ld (pc' := 44) i162_43 rfl rfl ?_
        refine e_get (w := .ref 413) (pc' := 47) i162_44 rfl (x_isC (by decide) w8.1 sh397) (x_fvR (by decide +kernel) (w8.2 397 17 413 lk397_17)) ?_
        refine e_ld (pc' := 48) i162_47 rfl rfl ?_
        refine e_stk (pc' := 49) i162_48 rfl rfl ?_
        refine e_al (n := k17) (w := .int (gI h 413 k17)) (pc' := 50) i162_49 rfl (x_alE (a := 20) (by decide) w8.1 sh413 (by decide) e18 g19 (by decide)) (x_clE e18 g19 (by decide)) (congrArg Value.int (gI_osI (by decide))) ?_
        refine e_cn (pc' := 51) i162_50 rfl ?_
        refine e_ib (z := (gI h 413 k17) + 1) (pc' := 52) i162_51 rfl rfl ?_
        refine e_as (n := k17) (h' := sI (sI h 427 k4 (-1)) 413 k17 ((gI h 413 k17) + 1)) (pc' := 53) i162_52 rfl (x_alE (a := 20) (by decide) w8.1 sh413 (by decide) e18 g19 (by decide)) (x_clE e18 g19 (by decide)) (by rw [(show (SH 413).1 = 20 by rw [sh413])]; rfl) ?_
        have w31 : HW (sI (sI h 427 k4 (-1)) 413 k17 ((gI h 413 k17) + 1)) := HW_sI w8
        refine e_ld (pc' := 54) i162_53 rfl rfl ?_
        refine e_get (w := .ref 413) (pc' := 57) i162_54 rfl (x_isC (by decide) w31.1 sh397) (x_fvR (by decide +kernel) (w31.2 397 17 413 lk397_17)) ?_
        refine e_ld (pc' := 58) i162_57 rfl rfl ?_
        refine e_al (n := k17) (w := .int (gI (sI (sI h 427 k4 (-1)) 413 k17 ((gI h 413 k17) + 1)) 413 k17)) (pc' := 59) i162_58 rfl (x_alE (a := 20) (by decide) w31.1 sh413 (by decide) e18 g19 (by decide)) (x_clE e18 g19 (by decide)) rfl ?_
        refine e_ld (pc' := 60) i162_59 rfl rfl ?_
        refine e_get (w := .ref 408) (pc' := 63) i162_60 rfl (x_isC (by decide) w31.1 sh397) (x_fvR (by decide +kernel) (w31.2 397 11 408 lk397_11)) ?_
        refine e_ld (pc' := 64) i162_63 rfl rfl ?_
        refine e_al (n := k4) (w := .int (gI h 408 k4)) (pc' := 65) i162_64 rfl (x_alE (a := 20) (by decide) w31.1 sh408 (by decide) e5 g6 (by decide)) (x_clE e5 g6 (by decide)) (congrArg Value.int (Eq.trans (gI_osI (by decide)) (gI_osI (by decide)))) ?_
        refine e_ic (pc' := 68) i162_65 rfl (fun c30 => ?_) (fun c30 => ?_)
        · have d31 : ¬ ((gI (sI (sI h 427 k4 (-1)) 413 k17 ((gI h 413 k17) + 1)) 413 k17) = (gI h 408 k4)) := (of_decide_eq_true c30)
          replace H := H.2 d31
          refine e_inc (z := l2 + 1) (ls' := [some (.ref 397), some (.int l1), some (.int (l2 + 1)), some (.int ((144 * l1) + l2)), z4, z5, z6]) (pc' := 110) i162_107 rfl rfl rfl rfl ?_
          refine e_go i162_110 ?_
          exact H
        · have d32 : (gI (sI (sI h 427 k4 (-1)) 413 k17 ((gI h 413 k17) + 1)) 413 k17) = (gI h 408 k4) := (Decidable.not_not.mp (of_decide_eq_false c30))
          replace H := H.1 d32
          refine e_ld (pc' := 69) i162_68 rfl rfl ?_
          refine e_get (w := .ref 412) (pc' := 72) i162_69 rfl (x_isC (by decide) w31.1 sh397) (x_fvR (by decide +kernel) (w31.2 397 16 412 lk397_16)) ?_
          refine e_ld (pc' := 73) i162_72 rfl rfl ?_
          refine e_ld (pc' := 74) i162_73 rfl rfl ?_
          refine e_get (w := .ref 407) (pc' := 77) i162_74 rfl (x_isC (by decide) w31.1 sh397) (x_fvR (by decide +kernel) (w31.2 397 10 407 lk397_10)) ?_
          refine e_ld (pc' := 78) i162_77 rfl rfl ?_
          refine e_al (n := k4) (w := .int (gI h 407 k4)) (pc' := 79) i162_78 rfl (x_alE (a := 20) (by decide) w31.1 sh407 (by decide) e5 g6 (by decide)) (x_clE e5 g6 (by decide)) (congrArg Value.int (Eq.trans (gI_osI (by decide)) (gI_osI (by decide)))) ?_
          refine e_as (n := k17) (h' := sI (sI (sI h 427 k4 (-1)) 413 k17 ((gI h 413 k17) + 1)) 412 k17 (gI h 407 k4)) (pc' := 80) i162_79 rfl (x_alE (a := 20) (by decide) w31.1 sh412 (by decide) e18 g19 (by decide)) (x_clE e18 g19 (by decide)) (by rw [(show (SH 412).1 = 20 by rw [sh412])]; rfl) ?_
          have w36 : HW (sI (sI (sI h 427 k4 (-1)) 413 k17 ((gI h 413 k17) + 1)) 412 k17 (gI h 407 k4)) := HW_sI w31
          refine e_ld (pc' := 81) i162_80 rfl rfl ?_
          refine e_get (w := .ref 413) (pc' := 84) i162_81 rfl (x_isC (by decide) w36.1 sh397) (x_fvR (by decide +kernel) (w36.2 397 17 413 lk397_17)) ?_
          refine e_ld (pc' := 85) i162_84 rfl rfl ?_
          refine e_cn (pc' := 86) i162_85 rfl ?_
          refine e_as (n := k17) (h' := sI (sI (sI (sI h 427 k4 (-1)) 413 k17 ((gI h 413 k17) + 1)) 412 k17 (gI h 407 k4)) 413 k17 0) (pc' := 87) i162_86 rfl (x_alE (a := 20) (by decide) w36.1 sh413 (by decide) e18 g19 (by decide)) (x_clE e18 g19 (by decide)) (by rw [(show (SH 413).1 = 20 by rw [sh413])]; rfl) ?_
          have w38 : HW (sI (sI (sI (sI h 427 k4 (-1)) 413 k17 ((gI h 413 k17) + 1)) 412 k17 (gI h 407 k4)) 413 k17 0) := HW_sI w36
          refine e_go i162_87 ?_
          refine e_inc (z := l2 + 1) (ls' := [some (.ref 397), some (.int l1), some (.int (l2 + 1)), some (.int ((144 * l1) + l2)), z4, z5, z6]) (pc' := 110) i162_107 rfl rfl rfl rfl ?_
          refine e_go i162_110 ?_
          exact H
set_option maxHeartbeats 8000000 in
set_option maxRecDepth 100000 in
theorem v162_115 {L : Nat} {xs : Nat → Int32} {Q : Option Value → Hp → Prop} {h : Hp} {l1 : Int32} {l2 : Int32} {z3 : Option Value} {z4 : Option Value} {z5 : Option Value} {z6 : Option Value} (hw : HW h) 
  (H : ((144 ≤ l2) → (WP L xs 162 281 [some (.ref 397), some (.int l1), some (.int 0), z3, z4, z5, z6] [] h Q)) ∧ (¬ (144 ≤ l2) → (∃ k4 : Nat, l2 = nI k4 ∧ k4 < 144 ∧ (((gI h 405 k4) = 0) → (WP L xs 162 115 [some (.ref 397), some (.int l1), some (.int (l2 + 1)), some (.int 0), z4, z5, z6] [] h Q)) ∧ (¬ ((gI h 405 k4) = 0) → (∃ (r10 : Int32), Sp L xs 156 [.ref 397, .int l1, .int l2] h (some (.int r10)) h ∧ ((r10 = 0) → (WP L xs 162 115 [some (.ref 397), some (.int l1), some (.int (l2 + 1)), some (.int r10), z4, z5, z6] [] h Q)) ∧ (¬ (r10 = 0) → ((((gI h 405 k4) = 2) → (∃ (h24 : Hp), Sp L xs 160 [.ref 397, .int l1, .int l2, .int r10] h none h24 ∧ WP L xs 162 115 [some (.ref 397), some (.int l1), some (.int (l2 + 1)), some (.int r10), z4, z5, z6] [] h24 Q)) ∧ (¬ ((gI h 405 k4) = 2) → ((((gI h 405 k4) = 4) → (WP L xs 162 186 [some (.ref 397), some (.int l1), some (.int l2), some (.int r10), some (.int 0), some (.int 1), z6] [] h Q)) ∧ (¬ ((gI h 405 k4) = 4) → (∃ (r20 : Int32) (h18 : Hp), Sp L xs 161 [.ref 397, .int l1, .int l2, .int (gI h 406 k4), .int r10] h (some (.int r20)) h18 ∧ WP L xs 162 115 [some (.ref 397), some (.int l1), some (.int (l2 + 1)), some (.int r10), some (.int r20), z5, z6] [] h18 Q))))))))))) : WP L xs 162 115 [some (.ref 397), some (.int l1), some (.int l2), z3, z4, z5, z6] [] h Q := by
  refine e_ld (pc' := 116) i162_115 rfl rfl ?_
  refine e_cn (pc' := 119) i162_116 rfl ?_
  refine e_ic (pc' := 122) i162_119 rfl (fun c1 => ?_) (fun c1 => ?_)
  · have d2 : 144 ≤ l2 := (of_decide_eq_true c1)
    replace H := H.1 d2
    refine e_cn (pc' := 280) i162_279 rfl ?_
    refine e_st (ls' := [some (.ref 397), some (.int l1), some (.int 0), z3, z4, z5, z6]) (pc' := 281) i162_280 rfl rfl rfl ?_
    exact H
  · have d3 : ¬ (144 ≤ l2) := (of_decide_eq_false c1)
    replace H := H.2 d3
    refine e_ld (pc' := 123) i162_122 rfl rfl ?_
    refine e_get (w := .ref 405) (pc' := 126) i162_123 rfl (x_isC (by decide) hw.1 sh397) (x_fvR (by decide +kernel) (hw.2 397 8 405 lk397_8)) ?_
    refine e_ld (pc' := 127) i162_126 rfl rfl ?_
    obtain ⟨k4, e5, g6, H⟩ := H
    refine e_al (n := k4) (w := .int (gI h 405 k4)) (pc' := 128) i162_127 rfl (x_alE (a := 20) (by decide) hw.1 sh405 (by decide) e5 g6 (by decide)) (x_clE e5 g6 (by decide)) rfl ?_
    refine e_if (pc' := 131) i162_128 rfl (fun c7 => ?_) (fun c7 => ?_)
    · have d8 : ¬ ((gI h 405 k4) = 0) := (of_decide_eq_true c7)
      replace H := H.2 d8
      refine e_ld (pc' := 136) i162_135 rfl rfl ?_
      refine e_ld (pc' := 137) i162_136 rfl rfl ?_
      refine e_ld (pc' := 138) i162_137 rfl rfl ?_
      obtain ⟨r10, s9, H⟩ := H
      refine e_cI (w := .int r10) (As := [.ref 397, .int l1, .int l2]) (rest := []) (pc' := 141) i162_138 rfl rfl rfl rfl (by show (Nat.beq (x_kd 156) 0 && x_is 397 _ (MC 156) 0) = true; rw [show x_kd 156 = 0 by decide +kernel, show MC 156 = 11 by decide +kernel, (x_isC (by decide) hw.1 sh397)]; rfl) s9 ?_
      refine e_st (ls' := [some (.ref 397), some (.int l1), some (.int l2), some (.int r10), z4, z5, z6]) (pc' := 142) i162_141 rfl rfl rfl ?_
      refine e_ld (pc' := 143) i162_142 rfl rfl ?_
      refine e_if (pc' := 146) i162_143 rfl (fun c11 => ?_) (fun c11 => ?_)
      · have d12 : r10 = 0 := (of_decide_eq_true c11)
        replace H := H.1 d12
        refine e_ld (pc' := 167) i162_166 rfl rfl ?_
        refine e_ifT i162_167 (decide_eq_true d12) ?_
        refine e_ld (pc' := 255) i162_254 rfl rfl ?_
        refine e_ifT i162_255 (decide_eq_true d12) ?_
        refine e_inc (z := l2 + 1) (ls' := [some (.ref 397), some (.int l1), some (.int (l2 + 1)), some (.int r10), z4, z5, z6]) (pc' := 276) i162_273 rfl rfl rfl rfl ?_
        refine e_go i162_276 ?_
        exact H
      · have d13 : ¬ (r10 = 0) := (of_decide_eq_false c11)
        replace H := H.2 d13
        refine e_ld (pc' := 147) i162_146 rfl rfl ?_
        refine e_get (w := .ref 405) (pc' := 150) i162_147 rfl (x_isC (by decide) hw.1 sh397) (x_fvR (by decide +kernel) (hw.2 397 8 405 lk397_8)) ?_
        refine e_ld (pc' := 151) i162_150 rfl rfl ?_
        refine e_al (n := k4) (w := .int (gI h 405 k4)) (pc' := 152) i162_151 rfl (x_alE (a := 20) (by decide) hw.1 sh405 (by decide) e5 g6 (by decide)) (x_clE e5 g6 (by decide)) rfl ?_
        refine e_cn (pc' := 153) i162_152 rfl ?_
        refine e_ic (pc' := 156) i162_153 rfl (fun c14 => ?_) (fun c14 => ?_)
        · have d15 : ¬ ((gI h 405 k4) = 2) := (of_decide_eq_true c14)
          replace H := H.2 d15
          refine e_ld (pc' := 167) i162_166 rfl rfl ?_
          refine e_ifF (pc' := 170) i162_167 rfl (decide_eq_false d13) ?_
          refine e_ld (pc' := 171) i162_170 rfl rfl ?_
          refine e_get (w := .ref 405) (pc' := 174) i162_171 rfl (x_isC (by decide) hw.1 sh397) (x_fvR (by decide +kernel) (hw.2 397 8 405 lk397_8)) ?_
          refine e_ld (pc' := 175) i162_174 rfl rfl ?_
          refine e_al (n := k4) (w := .int (gI h 405 k4)) (pc' := 176) i162_175 rfl (x_alE (a := 20) (by decide) hw.1 sh405 (by decide) e5 g6 (by decide)) (x_clE e5 g6 (by decide)) rfl ?_
          refine e_cn (pc' := 177) i162_176 rfl ?_
          refine e_ic (pc' := 180) i162_177 rfl (fun c16 => ?_) (fun c16 => ?_)
          · have d17 : ¬ ((gI h 405 k4) = 4) := (of_decide_eq_true c16)
            replace H := H.2 d17
            refine e_ld (pc' := 255) i162_254 rfl rfl ?_
            refine e_ifF (pc' := 258) i162_255 rfl (decide_eq_false d13) ?_
            refine e_ld (pc' := 259) i162_258 rfl rfl ?_
            refine e_ld (pc' := 260) i162_259 rfl rfl ?_
            refine e_ld (pc' := 261) i162_260 rfl rfl ?_
            refine e_ld (pc' := 262) i162_261 rfl rfl ?_
            refine e_get (w := .ref 406) (pc' := 265) i162_262 rfl (x_isC (by decide) hw.1 sh397) (x_fvR (by decide +kernel) (hw.2 397 9 406 lk397_9)) ?_
            refine e_ld (pc' := 266) i162_265 rfl rfl ?_
            refine e_al (n := k4) (w := .int (gI h 406 k4)) (pc' := 267) i162_266 rfl (x_alE (a := 20) (by decide) hw.1 sh406 (by decide) e5 g6 (by decide)) (x_clE e5 g6 (by decide)) rfl ?_
            refine e_ld (pc' := 268) i162_267 rfl rfl ?_
            obtain ⟨r20, h18, s19, H⟩ := H
            have w22q := HW_sp (show x_okm 161 = true by rfl) s19 hw
            have w22 : HW h18 := w22q.1
            refine e_cI (w := .int r20) (As := [.ref 397, .int l1, .int l2, .int (gI h 406 k4), .int r10]) (rest := []) (pc' := 271) i162_268 rfl rfl rfl rfl (by show (Nat.beq (x_kd 161) 0 && x_is 397 _ (MC 161) 0) = true; rw [show x_kd 161 = 0 by decide +kernel, show MC 161 = 11 by decide +kernel, (x_isC (by decide) hw.1 sh397)]; rfl) s19 ?_
            refine e_st (ls' := [some (.ref 397), some (.int l1), some (.int l2), some (.int r10), some (.int r20), z5, z6]) (pc' := 273) i162_271 rfl rfl rfl ?_
            refine e_inc (z := l2 + 1) (ls' := [some (.ref 397), some (.int l1), some (.int (l2 + 1)), some (.int r10), some (.int r20), z5, z6]) (pc' := 276) i162_273 rfl rfl rfl rfl ?_
            refine e_go i162_276 ?_
            exact H
          · have d22 : (gI h 405 k4) = 4 := (Decidable.not_not.mp (of_decide_eq_false c16))
            replace H := H.1 d22
            refine e_cn (pc' := 181) i162_180 rfl ?_
            refine e_st (ls' := [some (.ref 397), some (.int l1), some (.int l2), some (.int r10), some (.int 0), z5, z6]) (pc' := 183) i162_181 rfl rfl rfl ?_
            refine e_cn (pc' := 184) i162_183 rfl ?_
            refine e_st (ls' := [some (.ref 397), some (.int l1), some (.int l2), some (.int r10), some (.int 0), some (.int 1), z6]) (pc' := 186) i162_184 rfl rfl rfl ?_
            exact H
        · have d23 : (gI h 405 k4) = 2 := (Decidable.not_not.mp (of_decide_eq_false c14))
          replace H := H.1 d23
          refine e_ld (pc' := 157) i162_156 rfl rfl ?_
          refine e_ld (pc' := 158) i162_157 rfl rfl ?_
          refine e_ld (pc' := 159) i162_158 rfl rfl ?_
          refine e_ld (pc' := 160) i162_159 rfl rfl ?_
          obtain ⟨h24, s25, H⟩ := H
          have w27q := HW_sp (show x_okm 160 = true by rfl) s25 hw
          have w27 : HW h24 := w27q.1
          refine e_cV (As := [.ref 397, .int l1, .int l2, .int r10]) (rest := []) (pc' := 163) i162_160 rfl rfl rfl rfl (by show (Nat.beq (x_kd 160) 0 && x_is 397 _ (MC 160) 0) = true; rw [show x_kd 160 = 0 by decide +kernel, show MC 160 = 11 by decide +kernel, (x_isC (by decide) hw.1 sh397)]; rfl) s25 ?_
          refine e_go i162_163 ?_
          refine e_inc (z := l2 + 1) (ls' := [some (.ref 397), some (.int l1), some (.int (l2 + 1)), some (.int r10), z4, z5, z6]) (pc' := 276) i162_273 rfl rfl rfl rfl ?_
          refine e_go i162_276 ?_
          exact H
    · have d27 : (gI h 405 k4) = 0 := (Decidable.not_not.mp (of_decide_eq_false c7))
      replace H := H.1 d27
      refine e_cn (pc' := 132) i162_131 rfl ?_
      refine e_go i162_132 ?_
      refine e_st (ls' := [some (.ref 397), some (.int l1), some (.int l2), some (.int 0), z4, z5, z6]) (pc' := 142) i162_141 rfl rfl rfl ?_
      refine e_ld (pc' := 143) i162_142 rfl rfl ?_
      refine e_ifT i162_143 (by decide) ?_
      refine e_ld (pc' := 167) i162_166 rfl rfl ?_
      refine e_ifT i162_167 (by decide) ?_
      refine e_ld (pc' := 255) i162_254 rfl rfl ?_
      refine e_ifT i162_255 (by decide) ?_
      refine e_inc (z := l2 + 1) (ls' := [some (.ref 397), some (.int l1), some (.int (l2 + 1)), some (.int 0), z4, z5, z6]) (pc' := 276) i162_273 rfl rfl rfl rfl ?_
      refine e_go i162_276 ?_
      exact H
set_option maxHeartbeats 8000000 in
set_option maxRecDepth 100000 in
theorem v162_186 {L : Nat} {xs : Nat → Int32} {Q : Option Value → Hp → Prop} {h : Hp} {l1 : Int32} {l2 : Int32} {l3 : Int32} {l4 : Int32} {l5 : Int32} {z6 : Option Value} (hw : HW h) 
  (H : ((4 < l5) → (WP L xs 162 115 [some (.ref 397), some (.int l1), some (.int (l2 + 1)), some (.int l3), some (.int l4), some (.int l5), z6] [] h Q)) ∧ (¬ (4 < l5) → (((l4 = 0) → (∃ k7 : Nat, ((144 * l1) + l2) = nI k7 ∧ k7 < 432 ∧ ∃ (r11 : Int32), Sp L xs 128 [.ref 397, .int l2, .int (((gI h 419 k7) + l5) - ((gI h 419 k7) + l5) / 4 * 4)] h (some (.int r11)) h ∧ ((r11 = 0) → (WP L xs 162 186 [some (.ref 397), some (.int l1), some (.int l2), some (.int l3), some (.int 0), some (.int (l5 + 1)), some (.int (((gI h 419 k7) + l5) - ((gI h 419 k7) + l5) / 4 * 4))] [] h Q)) ∧ (¬ (r11 = 0) → (∃ (r17 : Int32) (h15 : Hp), Sp L xs 161 [.ref 397, .int l1, .int l2, .int (((gI h 419 k7) + l5) - ((gI h 419 k7) + l5) / 4 * 4), .int l3] h (some (.int r17)) h15 ∧ WP L xs 162 186 [some (.ref 397), some (.int l1), some (.int l2), some (.int l3), some (.int (b2i (if r17 = 0 then (false) else (true)))), some (.int (l5 + 1)), some (.int (((gI h 419 k7) + l5) - ((gI h 419 k7) + l5) / 4 * 4))] [] h15 Q)))) ∧ (¬ (l4 = 0) → (WP L xs 162 115 [some (.ref 397), some (.int l1), some (.int (l2 + 1)), some (.int l3), some (.int l4), some (.int l5), z6] [] h Q))))) : WP L xs 162 186 [some (.ref 397), some (.int l1), some (.int l2), some (.int l3), some (.int l4), some (.int l5), z6] [] h Q := by
  refine e_ld (pc' := 188) i162_186 rfl rfl ?_
  refine e_cn (pc' := 189) i162_188 rfl ?_
  refine e_ic (pc' := 192) i162_189 rfl (fun c1 => ?_) (fun c1 => ?_)
  · have d2 : 4 < l5 := (of_decide_eq_true c1)
    replace H := H.1 d2
    refine e_go i162_251 ?_
    refine e_inc (z := l2 + 1) (ls' := [some (.ref 397), some (.int l1), some (.int (l2 + 1)), some (.int l3), some (.int l4), some (.int l5), z6]) (pc' := 276) i162_273 rfl rfl rfl rfl ?_
    refine e_go i162_276 ?_
    exact H
  · have d3 : ¬ (4 < l5) := (of_decide_eq_false c1)
    replace H := H.2 d3
    refine e_ld (pc' := 194) i162_192 rfl rfl ?_
    refine e_if (pc' := 197) i162_194 rfl (fun c4 => ?_) (fun c4 => ?_)
    · have d5 : ¬ (l4 = 0) := (of_decide_eq_true c4)
      replace H := H.2 d5
      refine e_go i162_251 ?_
      refine e_inc (z := l2 + 1) (ls' := [some (.ref 397), some (.int l1), some (.int (l2 + 1)), some (.int l3), some (.int l4), some (.int l5), z6]) (pc' := 276) i162_273 rfl rfl rfl rfl ?_
      refine e_go i162_276 ?_
      exact H
    · have d6 : l4 = 0 := (Decidable.not_not.mp (of_decide_eq_false c4))
      replace H := H.1 d6
      refine e_ld (pc' := 198) i162_197 rfl rfl ?_
      refine e_get (w := .ref 419) (pc' := 201) i162_198 rfl (x_isC (by decide) hw.1 sh397) (x_fvR (by decide +kernel) (hw.2 397 23 419 lk397_23)) ?_
      refine e_cn (pc' := 204) i162_201 rfl ?_
      refine e_ld (pc' := 205) i162_204 rfl rfl ?_
      refine e_ib (z := 144 * l1) (pc' := 206) i162_205 rfl rfl ?_
      refine e_ld (pc' := 207) i162_206 rfl rfl ?_
      refine e_ib (z := (144 * l1) + l2) (pc' := 208) i162_207 rfl rfl ?_
      obtain ⟨k7, e8, g9, H⟩ := H
      refine e_al (n := k7) (w := .int (gI h 419 k7)) (pc' := 209) i162_208 rfl (x_alE (a := 20) (by decide) hw.1 sh419 (by decide) e8 g9 (by decide)) (x_clE e8 g9 (by decide)) rfl ?_
      refine e_ld (pc' := 211) i162_209 rfl rfl ?_
      refine e_ib (z := (gI h 419 k7) + l5) (pc' := 212) i162_211 rfl rfl ?_
      refine e_cn (pc' := 213) i162_212 rfl ?_
      refine e_ib (z := ((gI h 419 k7) + l5) - ((gI h 419 k7) + l5) / 4 * 4) (pc' := 214) i162_213 rfl (x_ib_rem (by decide)) ?_
      refine e_st (ls' := [some (.ref 397), some (.int l1), some (.int l2), some (.int l3), some (.int l4), some (.int l5), some (.int (((gI h 419 k7) + l5) - ((gI h 419 k7) + l5) / 4 * 4))]) (pc' := 216) i162_214 rfl rfl rfl ?_
      refine e_ld (pc' := 217) i162_216 rfl rfl ?_
      refine e_ld (pc' := 218) i162_217 rfl rfl ?_
      refine e_ld (pc' := 220) i162_218 rfl rfl ?_
      obtain ⟨r11, s10, H⟩ := H
      refine e_cI (w := .int r11) (As := [.ref 397, .int l2, .int (((gI h 419 k7) + l5) - ((gI h 419 k7) + l5) / 4 * 4)]) (rest := []) (pc' := 223) i162_220 rfl rfl rfl rfl (by show (Nat.beq (x_kd 128) 0 && x_is 397 _ (MC 128) 0) = true; rw [show x_kd 128 = 0 by decide +kernel, show MC 128 = 11 by decide +kernel, (x_isC (by decide) hw.1 sh397)]; rfl) s10 ?_
      refine e_if (pc' := 226) i162_223 rfl (fun c12 => ?_) (fun c12 => ?_)
      · have d13 : r11 = 0 := (of_decide_eq_true c12)
        replace H := H.1 d13
        refine e_cn (pc' := 243) i162_242 rfl ?_
        refine e_st (ls' := [some (.ref 397), some (.int l1), some (.int l2), some (.int l3), some (.int 0), some (.int l5), some (.int (((gI h 419 k7) + l5) - ((gI h 419 k7) + l5) / 4 * 4))]) (pc' := 245) i162_243 rfl rfl rfl ?_
        refine e_inc (z := l5 + 1) (ls' := [some (.ref 397), some (.int l1), some (.int l2), some (.int l3), some (.int 0), some (.int (l5 + 1)), some (.int (((gI h 419 k7) + l5) - ((gI h 419 k7) + l5) / 4 * 4))]) (pc' := 248) i162_245 rfl rfl rfl rfl ?_
        refine e_go i162_248 ?_
        exact H
      · have d14 : ¬ (r11 = 0) := (of_decide_eq_false c12)
        replace H := H.2 d14
        refine e_ld (pc' := 227) i162_226 rfl rfl ?_
        refine e_ld (pc' := 228) i162_227 rfl rfl ?_
        refine e_ld (pc' := 229) i162_228 rfl rfl ?_
        refine e_ld (pc' := 231) i162_229 rfl rfl ?_
        refine e_ld (pc' := 232) i162_231 rfl rfl ?_
        obtain ⟨r17, h15, s16, H⟩ := H
        have w19q := HW_sp (show x_okm 161 = true by rfl) s16 hw
        have w19 : HW h15 := w19q.1
        refine e_cI (w := .int r17) (As := [.ref 397, .int l1, .int l2, .int (((gI h 419 k7) + l5) - ((gI h 419 k7) + l5) / 4 * 4), .int l3]) (rest := []) (pc' := 235) i162_232 rfl rfl rfl rfl (by show (Nat.beq (x_kd 161) 0 && x_is 397 _ (MC 161) 0) = true; rw [show x_kd 161 = 0 by decide +kernel, show MC 161 = 11 by decide +kernel, (x_isC (by decide) hw.1 sh397)]; rfl) s16 ?_
        refine e_reg (pc' := 243) (ls' := [some (.ref 397), some (.int l1), some (.int l2), some (.int l3), some (.int l4), some (.int l5), some (.int (((gI h 419 k7) + l5) - ((gI h 419 k7) + l5) / 4 * 4))]) (st' := [.int (b2i (if r17 = 0 then (false) else (true)))]) (fun kj19 => ?_) ?_
        · skip
          refine e_if (pc' := 238) i162_235 rfl (fun c20 => ?_) (fun c20 => ?_)
          · have d21 : r17 = 0 := (of_decide_eq_true c20)
            refine e_cn (pc' := 243) i162_242 rfl ?_
            exact (by simp only [if_pos d21] at kj19 ⊢; exact kj19)
          · have d22 : ¬ (r17 = 0) := (of_decide_eq_false c20)
            refine e_cn (pc' := 239) i162_238 rfl ?_
            refine e_go i162_239 ?_
            exact (by simp only [if_neg d22] at kj19 ⊢; exact kj19)
        refine e_st (ls' := [some (.ref 397), some (.int l1), some (.int l2), some (.int l3), some (.int (b2i (if r17 = 0 then (false) else (true)))), some (.int l5), some (.int (((gI h 419 k7) + l5) - ((gI h 419 k7) + l5) / 4 * 4))]) (pc' := 245) i162_243 rfl rfl rfl ?_
        refine e_inc (z := l5 + 1) (ls' := [some (.ref 397), some (.int l1), some (.int l2), some (.int l3), some (.int (b2i (if r17 = 0 then (false) else (true)))), some (.int (l5 + 1)), some (.int (((gI h 419 k7) + l5) - ((gI h 419 k7) + l5) / 4 * 4))]) (pc' := 248) i162_245 rfl rfl rfl rfl ?_
        refine e_go i162_248 ?_
        exact H
set_option maxHeartbeats 8000000 in
set_option maxRecDepth 100000 in
theorem v162_281 {L : Nat} {xs : Nat → Int32} {Q : Option Value → Hp → Prop} {h : Hp} {l1 : Int32} {l2 : Int32} {z3 : Option Value} {z4 : Option Value} {z5 : Option Value} {z6 : Option Value} (hw : HW h) 
  (H : ((144 ≤ l2) → (WP L xs 162 327 [some (.ref 397), some (.int l1), some (.int 0), z3, z4, z5, z6] [] h Q)) ∧ (¬ (144 ≤ l2) → (∃ k4 : Nat, l2 = nI k4 ∧ k4 < 144 ∧ (((gI h 427 k4) = (-1)) → (WP L xs 162 281 [some (.ref 397), some (.int l1), some (.int (l2 + 1)), z3, z4, z5, z6] [] (sI h 430 k4 0) Q)) ∧ (¬ ((gI h 427 k4) = (-1)) → (∃ (r10 : Int32), Sp L xs 156 [.ref 397, .int l1, .int (gI h 427 k4)] h (some (.int r10)) h ∧ WP L xs 162 281 [some (.ref 397), some (.int l1), some (.int (l2 + 1)), z3, z4, z5, z6] [] (sI h 430 k4 r10) Q))))) : WP L xs 162 281 [some (.ref 397), some (.int l1), some (.int l2), z3, z4, z5, z6] [] h Q := by
  refine e_ld (pc' := 282) i162_281 rfl rfl ?_
  refine e_cn (pc' := 285) i162_282 rfl ?_
  refine e_ic (pc' := 288) i162_285 rfl (fun c1 => ?_) (fun c1 => ?_)
  · have d2 : 144 ≤ l2 := (of_decide_eq_true c1)
    replace H := H.1 d2
    refine e_cn (pc' := 326) i162_325 rfl ?_
    refine e_st (ls' := [some (.ref 397), some (.int l1), some (.int 0), z3, z4, z5, z6]) (pc' := 327) i162_326 rfl rfl rfl ?_
    exact H
  · have d3 : ¬ (144 ≤ l2) := (of_decide_eq_false c1)
    replace H := H.2 d3
    refine e_ld (pc' := 289) i162_288 rfl rfl ?_
    refine e_get (w := .ref 430) (pc' := 292) i162_289 rfl (x_isC (by decide) hw.1 sh397) (x_fvR (by decide +kernel) (hw.2 397 34 430 lk397_34)) ?_
    refine e_ld (pc' := 293) i162_292 rfl rfl ?_
    refine e_ld (pc' := 294) i162_293 rfl rfl ?_
    refine e_get (w := .ref 427) (pc' := 297) i162_294 rfl (x_isC (by decide) hw.1 sh397) (x_fvR (by decide +kernel) (hw.2 397 31 427 lk397_31)) ?_
    refine e_ld (pc' := 298) i162_297 rfl rfl ?_
    obtain ⟨k4, e5, g6, H⟩ := H
    refine e_al (n := k4) (w := .int (gI h 427 k4)) (pc' := 299) i162_298 rfl (x_alE (a := 20) (by decide) hw.1 sh427 (by decide) e5 g6 (by decide)) (x_clE e5 g6 (by decide)) rfl ?_
    refine e_cn (pc' := 300) i162_299 rfl ?_
    refine e_ic (pc' := 303) i162_300 rfl (fun c7 => ?_) (fun c7 => ?_)
    · have d8 : ¬ ((gI h 427 k4) = (-1)) := (of_decide_eq_true c7)
      replace H := H.2 d8
      refine e_ld (pc' := 308) i162_307 rfl rfl ?_
      refine e_ld (pc' := 309) i162_308 rfl rfl ?_
      refine e_ld (pc' := 310) i162_309 rfl rfl ?_
      refine e_get (w := .ref 427) (pc' := 313) i162_310 rfl (x_isC (by decide) hw.1 sh397) (x_fvR (by decide +kernel) (hw.2 397 31 427 lk397_31)) ?_
      refine e_ld (pc' := 314) i162_313 rfl rfl ?_
      refine e_al (n := k4) (w := .int (gI h 427 k4)) (pc' := 315) i162_314 rfl (x_alE (a := 20) (by decide) hw.1 sh427 (by decide) e5 g6 (by decide)) (x_clE e5 g6 (by decide)) rfl ?_
      obtain ⟨r10, s9, H⟩ := H
      refine e_cI (w := .int r10) (As := [.ref 397, .int l1, .int (gI h 427 k4)]) (rest := [.int l2, .ref 430]) (pc' := 318) i162_315 rfl rfl rfl rfl (by show (Nat.beq (x_kd 156) 0 && x_is 397 _ (MC 156) 0) = true; rw [show x_kd 156 = 0 by decide +kernel, show MC 156 = 11 by decide +kernel, (x_isC (by decide) hw.1 sh397)]; rfl) s9 ?_
      refine e_as (n := k4) (h' := sI h 430 k4 r10) (pc' := 319) i162_318 rfl (x_alE (a := 20) (by decide) hw.1 sh430 (by decide) e5 g6 (by decide)) (x_clE e5 g6 (by decide)) (by rw [(show (SH 430).1 = 20 by rw [sh430])]; rfl) ?_
      have w12 : HW (sI h 430 k4 r10) := HW_sI hw
      refine e_inc (z := l2 + 1) (ls' := [some (.ref 397), some (.int l1), some (.int (l2 + 1)), z3, z4, z5, z6]) (pc' := 322) i162_319 rfl rfl rfl rfl ?_
      refine e_go i162_322 ?_
      exact H
    · have d12 : (gI h 427 k4) = (-1) := (Decidable.not_not.mp (of_decide_eq_false c7))
      replace H := H.1 d12
      refine e_cn (pc' := 304) i162_303 rfl ?_
      refine e_go i162_304 ?_
      refine e_as (n := k4) (h' := sI h 430 k4 0) (pc' := 319) i162_318 rfl (x_alE (a := 20) (by decide) hw.1 sh430 (by decide) e5 g6 (by decide)) (x_clE e5 g6 (by decide)) (by rw [(show (SH 430).1 = 20 by rw [sh430])]; rfl) ?_
      have w14 : HW (sI h 430 k4 0) := HW_sI hw
      refine e_inc (z := l2 + 1) (ls' := [some (.ref 397), some (.int l1), some (.int (l2 + 1)), z3, z4, z5, z6]) (pc' := 322) i162_319 rfl rfl rfl rfl ?_
      refine e_go i162_322 ?_
      exact H
set_option maxHeartbeats 8000000 in
set_option maxRecDepth 100000 in
theorem v162_327 {L : Nat} {xs : Nat → Int32} {Q : Option Value → Hp → Prop} {h : Hp} {l1 : Int32} {l2 : Int32} {z3 : Option Value} {z4 : Option Value} {z5 : Option Value} {z6 : Option Value} (hw : HW h) 
  (H : ((144 ≤ l2) → (WP L xs 162 373 [some (.ref 397), some (.int l1), some (.int 0), z3, z4, z5, z6] [] h Q)) ∧ (¬ (144 ≤ l2) → (∃ k4 : Nat, l2 = nI k4 ∧ k4 < 144 ∧ (((gI h 427 k4) = (-1)) → (WP L xs 162 327 [some (.ref 397), some (.int l1), some (.int (l2 + 1)), z3, z4, z5, z6] [] h Q)) ∧ (¬ ((gI h 427 k4) = (-1)) → (∃ (h10 : Hp), Sp L xs 163 [.ref 397, .int l1, .int (gI h 427 k4), .int (((gI h 429 k4) + 2) - ((gI h 429 k4) + 2) / 4 * 4)] h none h10 ∧ WP L xs 162 327 [some (.ref 397), some (.int l1), some (.int (l2 + 1)), z3, z4, z5, z6] [] h10 Q))))) : WP L xs 162 327 [some (.ref 397), some (.int l1), some (.int l2), z3, z4, z5, z6] [] h Q := by
  refine e_ld (pc' := 328) i162_327 rfl rfl ?_
  refine e_cn (pc' := 331) i162_328 rfl ?_
  refine e_ic (pc' := 334) i162_331 rfl (fun c1 => ?_) (fun c1 => ?_)
  · have d2 : 144 ≤ l2 := (of_decide_eq_true c1)
    replace H := H.1 d2
    refine e_cn (pc' := 372) i162_371 rfl ?_
    refine e_st (ls' := [some (.ref 397), some (.int l1), some (.int 0), z3, z4, z5, z6]) (pc' := 373) i162_372 rfl rfl rfl ?_
    exact H
  · have d3 : ¬ (144 ≤ l2) := (of_decide_eq_false c1)
    replace H := H.2 d3
    refine e_ld (pc' := 335) i162_334 rfl rfl ?_
    refine e_get (w := .ref 427) (pc' := 338) i162_335 rfl (x_isC (by decide) hw.1 sh397) (x_fvR (by decide +kernel) (hw.2 397 31 427 lk397_31)) ?_
    refine e_ld (pc' := 339) i162_338 rfl rfl ?_
    obtain ⟨k4, e5, g6, H⟩ := H
    refine e_al (n := k4) (w := .int (gI h 427 k4)) (pc' := 340) i162_339 rfl (x_alE (a := 20) (by decide) hw.1 sh427 (by decide) e5 g6 (by decide)) (x_clE e5 g6 (by decide)) rfl ?_
    refine e_cn (pc' := 341) i162_340 rfl ?_
    refine e_ic (pc' := 344) i162_341 rfl (fun c7 => ?_) (fun c7 => ?_)
    · have d8 : (gI h 427 k4) = (-1) := (of_decide_eq_true c7)
      replace H := H.1 d8
      refine e_inc (z := l2 + 1) (ls' := [some (.ref 397), some (.int l1), some (.int (l2 + 1)), z3, z4, z5, z6]) (pc' := 368) i162_365 rfl rfl rfl rfl ?_
      refine e_go i162_368 ?_
      exact H
    · have d9 : ¬ ((gI h 427 k4) = (-1)) := (of_decide_eq_false c7)
      replace H := H.2 d9
      refine e_ld (pc' := 345) i162_344 rfl rfl ?_
      refine e_ld (pc' := 346) i162_345 rfl rfl ?_
      refine e_ld (pc' := 347) i162_346 rfl rfl ?_
      refine e_get (w := .ref 427) (pc' := 350) i162_347 rfl (x_isC (by decide) hw.1 sh397) (x_fvR (by decide +kernel) (hw.2 397 31 427 lk397_31)) ?_
      refine e_ld (pc' := 351) i162_350 rfl rfl ?_
      refine e_al (n := k4) (w := .int (gI h 427 k4)) (pc' := 352) i162_351 rfl (x_alE (a := 20) (by decide) hw.1 sh427 (by decide) e5 g6 (by decide)) (x_clE e5 g6 (by decide)) rfl ?_
      refine e_ld (pc' := 353) i162_352 rfl rfl ?_
      refine e_get (w := .ref 429) (pc' := 356) i162_353 rfl (x_isC (by decide) hw.1 sh397) (x_fvR (by decide +kernel) (hw.2 397 33 429 lk397_33)) ?_
      refine e_ld (pc' := 357) i162_356 rfl rfl ?_
      refine e_al (n := k4) (w := .int (gI h 429 k4)) (pc' := 358) i162_357 rfl (x_alE (a := 20) (by decide) hw.1 sh429 (by decide) e5 g6 (by decide)) (x_clE e5 g6 (by decide)) rfl ?_
      refine e_cn (pc' := 359) i162_358 rfl ?_
      refine e_ib (z := (gI h 429 k4) + 2) (pc' := 360) i162_359 rfl rfl ?_
      refine e_cn (pc' := 361) i162_360 rfl ?_
      refine e_ib (z := ((gI h 429 k4) + 2) - ((gI h 429 k4) + 2) / 4 * 4) (pc' := 362) i162_361 rfl (x_ib_rem (by decide)) ?_
      obtain ⟨h10, s11, H⟩ := H
      have w13q := HW_sp (show x_okm 163 = true by rfl) s11 hw
      have w13 : HW h10 := w13q.1
      refine e_cV (As := [.ref 397, .int l1, .int (gI h 427 k4), .int (((gI h 429 k4) + 2) - ((gI h 429 k4) + 2) / 4 * 4)]) (rest := []) (pc' := 365) i162_362 rfl rfl rfl rfl (by show (Nat.beq (x_kd 163) 0 && x_is 397 _ (MC 163) 0) = true; rw [show x_kd 163 = 0 by decide +kernel, show MC 163 = 11 by decide +kernel, (x_isC (by decide) hw.1 sh397)]; rfl) s11 ?_
      refine e_inc (z := l2 + 1) (ls' := [some (.ref 397), some (.int l1), some (.int (l2 + 1)), z3, z4, z5, z6]) (pc' := 368) i162_365 rfl rfl rfl rfl ?_
      refine e_go i162_368 ?_
      exact H
set_option maxHeartbeats 8000000 in
set_option maxRecDepth 100000 in
theorem v162_373 {L : Nat} {xs : Nat → Int32} {Q : Option Value → Hp → Prop} {h : Hp} {l1 : Int32} {l2 : Int32} {z3 : Option Value} {z4 : Option Value} {z5 : Option Value} {z6 : Option Value} (hw : HW h) 
  (H : ((144 ≤ l2) → (Q none h)) ∧ (¬ (144 ≤ l2) → (∃ k4 : Nat, l2 = nI k4 ∧ k4 < 144 ∧ (((gI h 427 k4) = (-1)) → (WP L xs 162 373 [some (.ref 397), some (.int l1), some (.int (l2 + 1)), z3, z4, z5, z6] [] h Q)) ∧ (¬ ((gI h 427 k4) = (-1)) → (∃ (h10 : Hp), Sp L xs 164 [.ref 397, .int l1, .int l2, .int (gI h 430 k4)] h none h10 ∧ WP L xs 162 373 [some (.ref 397), some (.int l1), some (.int (l2 + 1)), z3, z4, z5, z6] [] h10 Q))))) : WP L xs 162 373 [some (.ref 397), some (.int l1), some (.int l2), z3, z4, z5, z6] [] h Q := by
  refine e_ld (pc' := 374) i162_373 rfl rfl ?_
  refine e_cn (pc' := 377) i162_374 rfl ?_
  refine e_ic (pc' := 380) i162_377 rfl (fun c1 => ?_) (fun c1 => ?_)
  · have d2 : 144 ≤ l2 := (of_decide_eq_true c1)
    replace H := H.1 d2
    refine e_rt i162_408 rfl ?_
    exact H
  · have d3 : ¬ (144 ≤ l2) := (of_decide_eq_false c1)
    replace H := H.2 d3
    refine e_ld (pc' := 381) i162_380 rfl rfl ?_
    refine e_get (w := .ref 427) (pc' := 384) i162_381 rfl (x_isC (by decide) hw.1 sh397) (x_fvR (by decide +kernel) (hw.2 397 31 427 lk397_31)) ?_
    refine e_ld (pc' := 385) i162_384 rfl rfl ?_
    obtain ⟨k4, e5, g6, H⟩ := H
    refine e_al (n := k4) (w := .int (gI h 427 k4)) (pc' := 386) i162_385 rfl (x_alE (a := 20) (by decide) hw.1 sh427 (by decide) e5 g6 (by decide)) (x_clE e5 g6 (by decide)) rfl ?_
    refine e_cn (pc' := 387) i162_386 rfl ?_
    refine e_ic (pc' := 390) i162_387 rfl (fun c7 => ?_) (fun c7 => ?_)
    · have d8 : (gI h 427 k4) = (-1) := (of_decide_eq_true c7)
      replace H := H.1 d8
      refine e_inc (z := l2 + 1) (ls' := [some (.ref 397), some (.int l1), some (.int (l2 + 1)), z3, z4, z5, z6]) (pc' := 405) i162_402 rfl rfl rfl rfl ?_
      refine e_go i162_405 ?_
      exact H
    · have d9 : ¬ ((gI h 427 k4) = (-1)) := (of_decide_eq_false c7)
      replace H := H.2 d9
      refine e_ld (pc' := 391) i162_390 rfl rfl ?_
      refine e_ld (pc' := 392) i162_391 rfl rfl ?_
      refine e_ld (pc' := 393) i162_392 rfl rfl ?_
      refine e_ld (pc' := 394) i162_393 rfl rfl ?_
      refine e_get (w := .ref 430) (pc' := 397) i162_394 rfl (x_isC (by decide) hw.1 sh397) (x_fvR (by decide +kernel) (hw.2 397 34 430 lk397_34)) ?_
      refine e_ld (pc' := 398) i162_397 rfl rfl ?_
      refine e_al (n := k4) (w := .int (gI h 430 k4)) (pc' := 399) i162_398 rfl (x_alE (a := 20) (by decide) hw.1 sh430 (by decide) e5 g6 (by decide)) (x_clE e5 g6 (by decide)) rfl ?_
      obtain ⟨h10, s11, H⟩ := H
      have w13q := HW_sp (show x_okm 164 = true by rfl) s11 hw
      have w13 : HW h10 := w13q.1
      refine e_cV (As := [.ref 397, .int l1, .int l2, .int (gI h 430 k4)]) (rest := []) (pc' := 402) i162_399 rfl rfl rfl rfl (by show (Nat.beq (x_kd 164) 0 && x_is 397 _ (MC 164) 0) = true; rw [show x_kd 164 = 0 by decide +kernel, show MC 164 = 11 by decide +kernel, (x_isC (by decide) hw.1 sh397)]; rfl) s11 ?_
      refine e_inc (z := l2 + 1) (ls' := [some (.ref 397), some (.int l1), some (.int (l2 + 1)), z3, z4, z5, z6]) (pc' := 405) i162_402 rfl rfl rfl rfl ?_
      refine e_go i162_405 ?_
      exact H
-- FloorTurnModel.lets(III)V
set_option maxHeartbeats 8000000 in
set_option maxRecDepth 100000 in
theorem v163 {L : Nat} {xs : Nat → Int32} {Q : Option Value → Hp → Prop} {h : Hp} {x : Int32} {y : Int32} {z : Int32} (hw : HW h) 
  (H : ∃ k1 : Nat, y = nI k1 ∧ k1 < 144 ∧ (((gI h 405 k1) = 6) → (∃ k20 : Nat, ((144 * x) + y) = nI k20 ∧ k20 < 432 ∧ (((gI h 405 k1) = 4) → (Q none (sI (sI (sI (sI h 414 k20 ((gI h 414 k20) - 1)) 419 k20 z) 432 k1 ((gI h 432 k1) + 1)) 397 36 1))) ∧ (¬ ((gI h 405 k1) = 4) → (Q none (sI (sI (sI (sI h 414 k20 ((gI h 414 k20) - 1)) 419 k20 (gI h 419 k20)) 432 k1 ((gI h 432 k1) + 1)) 397 36 1))))) ∧ (¬ ((gI h 405 k1) = 6) → (∃ k6 : Nat, ((144 * x) + y) = nI k6 ∧ k6 < 432 ∧ (((gI h 405 k1) = 4) → (Q none (sI (sI (sI (sI h 412 k6 0) 419 k6 z) 432 k1 ((gI h 432 k1) + 1)) 397 36 1))) ∧ (¬ ((gI h 405 k1) = 4) → (Q none (sI (sI (sI (sI h 412 k6 0) 419 k6 (gI h 419 k6)) 432 k1 ((gI h 432 k1) + 1)) 397 36 1)))))) : ∃ r h', Sp L xs 163 [.ref 397, .int x, .int y, .int z] h r h' ∧ Q r h' := by
  refine sp_ex (ls := [some (.ref 397), some (.int x), some (.int y), some (.int z), none]) rfl ?_
  refine e_cn (pc' := 3) i163_0 rfl ?_
  refine e_ld (pc' := 4) i163_3 rfl rfl ?_
  refine e_ib (z := 144 * x) (pc' := 5) i163_4 rfl rfl ?_
  refine e_ld (pc' := 6) i163_5 rfl rfl ?_
  refine e_ib (z := (144 * x) + y) (pc' := 7) i163_6 rfl rfl ?_
  refine e_st (ls' := [some (.ref 397), some (.int x), some (.int y), some (.int z), some (.int ((144 * x) + y))]) (pc' := 9) i163_7 rfl rfl rfl ?_
  refine e_ld (pc' := 10) i163_9 rfl rfl ?_
  refine e_get (w := .ref 405) (pc' := 13) i163_10 rfl (x_isC (by decide) hw.1 sh397) (x_fvR (by decide +kernel) (hw.2 397 8 405 lk397_8)) ?_
  refine e_ld (pc' := 14) i163_13 rfl rfl ?_
  obtain ⟨k1, e2, g3, H⟩ := H
  refine e_al (n := k1) (w := .int (gI h 405 k1)) (pc' := 15) i163_14 rfl (x_alE (a := 20) (by decide) hw.1 sh405 (by decide) e2 g3 (by decide)) (x_clE e2 g3 (by decide)) rfl ?_
  refine e_cn (pc' := 17) i163_15 rfl ?_
  refine e_ic (pc' := 20) i163_17 rfl (fun c4 => ?_) (fun c4 => ?_)
  · have d5 : ¬ ((gI h 405 k1) = 6) := (of_decide_eq_true c4)
    replace H := H.2 d5
    refine e_ld (pc' := 35) i163_34 rfl rfl ?_
    refine e_get (w := .ref 412) (pc' := 38) i163_35 rfl (x_isC (by decide) hw.1 sh397) (x_fvR (by decide +kernel) (hw.2 397 16 412 lk397_16)) ?_
    refine e_ld (pc' := 40) i163_38 rfl rfl ?_
    refine e_cn (pc' := 41) i163_40 rfl ?_
    obtain ⟨k6, e7, g8, H⟩ := H
    refine e_as (n := k6) (h' := sI h 412 k6 0) (pc' := 42) i163_41 rfl (x_alE (a := 20) (by decide) hw.1 sh412 (by decide) e7 g8 (by decide)) (x_clE e7 g8 (by decide)) (by rw [(show (SH 412).1 = 20 by rw [sh412])]; rfl) ?_
    have w10 : HW (sI h 412 k6 0) := HW_sI hw
    refine e_ld (pc' := 43) i163_42 rfl rfl ?_
    refine e_get (w := .ref 419) (pc' := 46) i163_43 rfl (x_isC (by decide) w10.1 sh397) (x_fvR (by decide +kernel) (w10.2 397 23 419 lk397_23)) ?_
    refine e_ld (pc' := 48) i163_46 rfl rfl ?_
    refine e_ld (pc' := 49) i163_48 rfl rfl ?_
    refine e_get (w := .ref 405) (pc' := 52) i163_49 rfl (x_isC (by decide) w10.1 sh397) (x_fvR (by decide +kernel) (w10.2 397 8 405 lk397_8)) ?_
    refine e_ld (pc' := 53) i163_52 rfl rfl ?_
    refine e_al (n := k1) (w := .int (gI h 405 k1)) (pc' := 54) i163_53 rfl (x_alE (a := 20) (by decide) w10.1 sh405 (by decide) e2 g3 (by decide)) (x_clE e2 g3 (by decide)) (congrArg Value.int (gI_osI (by decide))) ?_
    refine e_cn (pc' := 55) i163_54 rfl ?_
    refine e_ic (pc' := 58) i163_55 rfl (fun c10 => ?_) (fun c10 => ?_)
    · have d11 : ¬ ((gI h 405 k1) = 4) := (of_decide_eq_true c10)
      replace H := H.2 d11
      refine e_ld (pc' := 63) i163_62 rfl rfl ?_
      refine e_get (w := .ref 419) (pc' := 66) i163_63 rfl (x_isC (by decide) w10.1 sh397) (x_fvR (by decide +kernel) (w10.2 397 23 419 lk397_23)) ?_
      refine e_ld (pc' := 68) i163_66 rfl rfl ?_
      refine e_al (n := k6) (w := .int (gI h 419 k6)) (pc' := 69) i163_68 rfl (x_alE (a := 20) (by decide) w10.1 sh419 (by decide) e7 g8 (by decide)) (x_clE e7 g8 (by decide)) (congrArg Value.int (gI_osI (by decide))) ?_
      refine e_as (n := k6) (h' := sI (sI h 412 k6 0) 419 k6 (gI h 419 k6)) (pc' := 70) i163_69 rfl (x_alE (a := 20) (by decide) w10.1 sh419 (by decide) e7 g8 (by decide)) (x_clE e7 g8 (by decide)) (by rw [(show (SH 419).1 = 20 by rw [sh419])]; rfl) ?_
      have w14 : HW (sI (sI h 412 k6 0) 419 k6 (gI h 419 k6)) := HW_sI w10
      refine e_ld (pc' := 71) i163_70 rfl rfl ?_
      refine e_get (w := .ref 432) (pc' := 74) i163_71 rfl (x_isC (by decide) w14.1 sh397) (x_fvR (by decide +kernel) (w14.2 397 38 432 lk397_38)) ?_
      refine e_ld (pc' := 75) i163_74 rfl rfl ?_
      refine e_stk (pc' := 76) i163_75 rfl rfl ?_
      refine e_al (n := k1) (w := .int (gI h 432 k1)) (pc' := 77) i163_76 rfl (x_alE (a := 20) (by decide) w14.1 sh432 (by decide) e2 g3 (by decide)) (x_clE e2 g3 (by decide)) (congrArg Value.int (Eq.trans (gI_osI (by decide)) (gI_osI (by decide)))) ?_
      refine e_cn (pc' := 78) i163_77 rfl ?_
      refine e_ib (z := (gI h 432 k1) + 1) (pc' := 79) i163_78 rfl rfl ?_
      refine e_as (n := k1) (h' := sI (sI (sI h 412 k6 0) 419 k6 (gI h 419 k6)) 432 k1 ((gI h 432 k1) + 1)) (pc' := 80) i163_79 rfl (x_alE (a := 20) (by decide) w14.1 sh432 (by decide) e2 g3 (by decide)) (x_clE e2 g3 (by decide)) (by rw [(show (SH 432).1 = 20 by rw [sh432])]; rfl) ?_
      have w16 : HW (sI (sI (sI h 412 k6 0) 419 k6 (gI h 419 k6)) 432 k1 ((gI h 432 k1) + 1)) := HW_sI w14
      refine e_ld (pc' := 81) i163_80 rfl rfl ?_
      refine e_cn (pc' := 82) i163_81 rfl ?_
      refine e_put (h' := sI (sI (sI (sI h 412 k6 0) 419 k6 (gI h 419 k6)) 432 k1 ((gI h 432 k1) + 1)) 397 36 1) (pc' := 85) i163_82 rfl (x_isC (by decide) w16.1 sh397) rfl ?_
      have w18 : HW (sI (sI (sI (sI h 412 k6 0) 419 k6 (gI h 419 k6)) 432 k1 ((gI h 432 k1) + 1)) 397 36 1) := HW_sI w16
      refine e_rt i163_85 rfl ?_
      exact H
    · have d15 : (gI h 405 k1) = 4 := (Decidable.not_not.mp (of_decide_eq_false c10))
      replace H := H.1 d15
      refine e_ld (pc' := 59) i163_58 rfl rfl ?_
      refine e_go i163_59 ?_
      refine e_as (n := k6) (h' := sI (sI h 412 k6 0) 419 k6 z) (pc' := 70) i163_69 rfl (x_alE (a := 20) (by decide) w10.1 sh419 (by decide) e7 g8 (by decide)) (x_clE e7 g8 (by decide)) (by rw [(show (SH 419).1 = 20 by rw [sh419])]; rfl) ?_
      have w18 : HW (sI (sI h 412 k6 0) 419 k6 z) := HW_sI w10
      refine e_ld (pc' := 71) i163_70 rfl rfl ?_
      refine e_get (w := .ref 432) (pc' := 74) i163_71 rfl (x_isC (by decide) w18.1 sh397) (x_fvR (by decide +kernel) (w18.2 397 38 432 lk397_38)) ?_
      refine e_ld (pc' := 75) i163_74 rfl rfl ?_
      refine e_stk (pc' := 76) i163_75 rfl rfl ?_
      refine e_al (n := k1) (w := .int (gI h 432 k1)) (pc' := 77) i163_76 rfl (x_alE (a := 20) (by decide) w18.1 sh432 (by decide) e2 g3 (by decide)) (x_clE e2 g3 (by decide)) (congrArg Value.int (Eq.trans (gI_osI (by decide)) (gI_osI (by decide)))) ?_
      refine e_cn (pc' := 78) i163_77 rfl ?_
      refine e_ib (z := (gI h 432 k1) + 1) (pc' := 79) i163_78 rfl rfl ?_
      refine e_as (n := k1) (h' := sI (sI (sI h 412 k6 0) 419 k6 z) 432 k1 ((gI h 432 k1) + 1)) (pc' := 80) i163_79 rfl (x_alE (a := 20) (by decide) w18.1 sh432 (by decide) e2 g3 (by decide)) (x_clE e2 g3 (by decide)) (by rw [(show (SH 432).1 = 20 by rw [sh432])]; rfl) ?_
      have w20 : HW (sI (sI (sI h 412 k6 0) 419 k6 z) 432 k1 ((gI h 432 k1) + 1)) := HW_sI w18
      refine e_ld (pc' := 81) i163_80 rfl rfl ?_
      refine e_cn (pc' := 82) i163_81 rfl ?_
      refine e_put (h' := sI (sI (sI (sI h 412 k6 0) 419 k6 z) 432 k1 ((gI h 432 k1) + 1)) 397 36 1) (pc' := 85) i163_82 rfl (x_isC (by decide) w20.1 sh397) rfl ?_
      have w22 : HW (sI (sI (sI (sI h 412 k6 0) 419 k6 z) 432 k1 ((gI h 432 k1) + 1)) 397 36 1) := HW_sI w20
      refine e_rt i163_85 rfl ?_
      exact H
  · have d19 : (gI h 405 k1) = 6 := (Decidable.not_not.mp (of_decide_eq_false c4))
    replace H := H.1 d19
    refine e_ld (pc' := 21) i163_20 rfl rfl ?_
    refine e_get (w := .ref 414) (pc' := 24) i163_21 rfl (x_isC (by decide) hw.1 sh397) (x_fvR (by decide +kernel) (hw.2 397 18 414 lk397_18)) ?_
    refine e_ld (pc' := 26) i163_24 rfl rfl ?_
    refine e_stk (pc' := 27) i163_26 rfl rfl ?_
    obtain ⟨k20, e21, g22, H⟩ := H
    refine e_al (n := k20) (w := .int (gI h 414 k20)) (pc' := 28) i163_27 rfl (x_alE (a := 20) (by decide) hw.1 sh414 (by decide) e21 g22 (by decide)) (x_clE e21 g22 (by decide)) rfl ?_
    refine e_cn (pc' := 29) i163_28 rfl ?_
    refine e_ib (z := (gI h 414 k20) - 1) (pc' := 30) i163_29 rfl rfl ?_
    refine e_as (n := k20) (h' := sI h 414 k20 ((gI h 414 k20) - 1)) (pc' := 31) i163_30 rfl (x_alE (a := 20) (by decide) hw.1 sh414 (by decide) e21 g22 (by decide)) (x_clE e21 g22 (by decide)) (by rw [(show (SH 414).1 = 20 by rw [sh414])]; rfl) ?_
    have w24 : HW (sI h 414 k20 ((gI h 414 k20) - 1)) := HW_sI hw
    refine e_go i163_31 ?_
    refine e_ld (pc' := 43) i163_42 rfl rfl ?_
    refine e_get (w := .ref 419) (pc' := 46) i163_43 rfl (x_isC (by decide) w24.1 sh397) (x_fvR (by decide +kernel) (w24.2 397 23 419 lk397_23)) ?_
    refine e_ld (pc' := 48) i163_46 rfl rfl ?_
    refine e_ld (pc' := 49) i163_48 rfl rfl ?_
    refine e_get (w := .ref 405) (pc' := 52) i163_49 rfl (x_isC (by decide) w24.1 sh397) (x_fvR (by decide +kernel) (w24.2 397 8 405 lk397_8)) ?_
    refine e_ld (pc' := 53) i163_52 rfl rfl ?_
    refine e_al (n := k1) (w := .int (gI h 405 k1)) (pc' := 54) i163_53 rfl (x_alE (a := 20) (by decide) w24.1 sh405 (by decide) e2 g3 (by decide)) (x_clE e2 g3 (by decide)) (congrArg Value.int (gI_osI (by decide))) ?_
    refine e_cn (pc' := 55) i163_54 rfl ?_
    refine e_ic (pc' := 58) i163_55 rfl (fun c24 => ?_) (fun c24 => ?_)
    · have d25 : ¬ ((gI h 405 k1) = 4) := (of_decide_eq_true c24)
      replace H := H.2 d25
      refine e_ld (pc' := 63) i163_62 rfl rfl ?_
      refine e_get (w := .ref 419) (pc' := 66) i163_63 rfl (x_isC (by decide) w24.1 sh397) (x_fvR (by decide +kernel) (w24.2 397 23 419 lk397_23)) ?_
      refine e_ld (pc' := 68) i163_66 rfl rfl ?_
      refine e_al (n := k20) (w := .int (gI h 419 k20)) (pc' := 69) i163_68 rfl (x_alE (a := 20) (by decide) w24.1 sh419 (by decide) e21 g22 (by decide)) (x_clE e21 g22 (by decide)) (congrArg Value.int (gI_osI (by decide))) ?_
      refine e_as (n := k20) (h' := sI (sI h 414 k20 ((gI h 414 k20) - 1)) 419 k20 (gI h 419 k20)) (pc' := 70) i163_69 rfl (x_alE (a := 20) (by decide) w24.1 sh419 (by decide) e21 g22 (by decide)) (x_clE e21 g22 (by decide)) (by rw [(show (SH 419).1 = 20 by rw [sh419])]; rfl) ?_
      have w28 : HW (sI (sI h 414 k20 ((gI h 414 k20) - 1)) 419 k20 (gI h 419 k20)) := HW_sI w24
      refine e_ld (pc' := 71) i163_70 rfl rfl ?_
      refine e_get (w := .ref 432) (pc' := 74) i163_71 rfl (x_isC (by decide) w28.1 sh397) (x_fvR (by decide +kernel) (w28.2 397 38 432 lk397_38)) ?_
      refine e_ld (pc' := 75) i163_74 rfl rfl ?_
      refine e_stk (pc' := 76) i163_75 rfl rfl ?_
      refine e_al (n := k1) (w := .int (gI h 432 k1)) (pc' := 77) i163_76 rfl (x_alE (a := 20) (by decide) w28.1 sh432 (by decide) e2 g3 (by decide)) (x_clE e2 g3 (by decide)) (congrArg Value.int (Eq.trans (gI_osI (by decide)) (gI_osI (by decide)))) ?_
      refine e_cn (pc' := 78) i163_77 rfl ?_
      refine e_ib (z := (gI h 432 k1) + 1) (pc' := 79) i163_78 rfl rfl ?_
      refine e_as (n := k1) (h' := sI (sI (sI h 414 k20 ((gI h 414 k20) - 1)) 419 k20 (gI h 419 k20)) 432 k1 ((gI h 432 k1) + 1)) (pc' := 80) i163_79 rfl (x_alE (a := 20) (by decide) w28.1 sh432 (by decide) e2 g3 (by decide)) (x_clE e2 g3 (by decide)) (by rw [(show (SH 432).1 = 20 by rw [sh432])]; rfl) ?_
      have w30 : HW (sI (sI (sI h 414 k20 ((gI h 414 k20) - 1)) 419 k20 (gI h 419 k20)) 432 k1 ((gI h 432 k1) + 1)) := HW_sI w28
      refine e_ld (pc' := 81) i163_80 rfl rfl ?_
      refine e_cn (pc' := 82) i163_81 rfl ?_
      refine e_put (h' := sI (sI (sI (sI h 414 k20 ((gI h 414 k20) - 1)) 419 k20 (gI h 419 k20)) 432 k1 ((gI h 432 k1) + 1)) 397 36 1) (pc' := 85) i163_82 rfl (x_isC (by decide) w30.1 sh397) rfl ?_
      have w32 : HW (sI (sI (sI (sI h 414 k20 ((gI h 414 k20) - 1)) 419 k20 (gI h 419 k20)) 432 k1 ((gI h 432 k1) + 1)) 397 36 1) := HW_sI w30
      refine e_rt i163_85 rfl ?_
      exact H
    · have d29 : (gI h 405 k1) = 4 := (Decidable.not_not.mp (of_decide_eq_false c24))
      replace H := H.1 d29
      refine e_ld (pc' := 59) i163_58 rfl rfl ?_
      refine e_go i163_59 ?_
      refine e_as (n := k20) (h' := sI (sI h 414 k20 ((gI h 414 k20) - 1)) 419 k20 z) (pc' := 70) i163_69 rfl (x_alE (a := 20) (by decide) w24.1 sh419 (by decide) e21 g22 (by decide)) (x_clE e21 g22 (by decide)) (by rw [(show (SH 419).1 = 20 by rw [sh419])]; rfl) ?_
      have w32 : HW (sI (sI h 414 k20 ((gI h 414 k20) - 1)) 419 k20 z) := HW_sI w24
      refine e_ld (pc' := 71) i163_70 rfl rfl ?_
      refine e_get (w := .ref 432) (pc' := 74) i163_71 rfl (x_isC (by decide) w32.1 sh397) (x_fvR (by decide +kernel) (w32.2 397 38 432 lk397_38)) ?_
      refine e_ld (pc' := 75) i163_74 rfl rfl ?_
      refine e_stk (pc' := 76) i163_75 rfl rfl ?_
      refine e_al (n := k1) (w := .int (gI h 432 k1)) (pc' := 77) i163_76 rfl (x_alE (a := 20) (by decide) w32.1 sh432 (by decide) e2 g3 (by decide)) (x_clE e2 g3 (by decide)) (congrArg Value.int (Eq.trans (gI_osI (by decide)) (gI_osI (by decide)))) ?_
      refine e_cn (pc' := 78) i163_77 rfl ?_
      refine e_ib (z := (gI h 432 k1) + 1) (pc' := 79) i163_78 rfl rfl ?_
      refine e_as (n := k1) (h' := sI (sI (sI h 414 k20 ((gI h 414 k20) - 1)) 419 k20 z) 432 k1 ((gI h 432 k1) + 1)) (pc' := 80) i163_79 rfl (x_alE (a := 20) (by decide) w32.1 sh432 (by decide) e2 g3 (by decide)) (x_clE e2 g3 (by decide)) (by rw [(show (SH 432).1 = 20 by rw [sh432])]; rfl) ?_
      have w34 : HW (sI (sI (sI h 414 k20 ((gI h 414 k20) - 1)) 419 k20 z) 432 k1 ((gI h 432 k1) + 1)) := HW_sI w32
      refine e_ld (pc' := 81) i163_80 rfl rfl ?_
      refine e_cn (pc' := 82) i163_81 rfl ?_
      refine e_put (h' := sI (sI (sI (sI h 414 k20 ((gI h 414 k20) - 1)) 419 k20 z) 432 k1 ((gI h 432 k1) + 1)) 397 36 1) (pc' := 85) i163_82 rfl (x_isC (by decide) w34.1 sh397) rfl ?_
      have w36 : HW (sI (sI (sI (sI h 414 k20 ((gI h 414 k20) - 1)) 419 k20 z) 432 k1 ((gI h 432 k1) + 1)) 397 36 1) := HW_sI w34
      refine e_rt i163_85 rfl ?_
      exact H
-- FloorTurnModel.gets(III)V
set_option maxHeartbeats 8000000 in
set_option maxRecDepth 100000 in
theorem v164 {L : Nat} {xs : Nat → Int32} {Q : Option Value → Hp → Prop} {h : Hp} {x : Int32} {y : Int32} {z : Int32} (hw : HW h) 
  (H : ∃ k1 : Nat, y = nI k1 ∧ k1 < 144 ∧ ∃ k4 : Nat, ((144 * x) + y) = nI k4 ∧ k4 < 432 ∧ (((gI h 405 k1) = 7) → (∃ k28 : Nat, z = nI k28 ∧ k28 < 21 ∧ Q none (sI (sI (sI (sI h 418 k4 (gI h 429 k1)) 431 k1 ((gI h 431 k1) + 1)) 397 35 ((gI h 397 35) + 1)) 411 k28 ((gI h 411 k28) + (b2i (if x = 0 then (true) else (false))))))) ∧ (¬ ((gI h 405 k1) = 7) → ((((gI h 405 k1) = 6) → (∃ k15 : Nat, (2 * (gI h 407 k1)) = nI k15 ∧ k15 < 16 ∧ ∃ k22 : Nat, (if (gI h 402 k15) = z then (2 * ((144 * x) + y)) else ((2 * ((144 * x) + y)) + 1)) = nI k22 ∧ k22 < 864 ∧ Q none (sI (sI (sI h 418 k4 (gI h 429 k1)) 431 k1 ((gI h 431 k1) + 1)) 417 k22 ((gI h 417 k22) + 1)))) ∧ (¬ ((gI h 405 k1) = 6) → (Q none (sI (sI (sI h 418 k4 (gI h 429 k1)) 431 k1 ((gI h 431 k1) + 1)) 412 k4 z)))))) : ∃ r h', Sp L xs 164 [.ref 397, .int x, .int y, .int z] h r h' ∧ Q r h' := by
  refine sp_ex (ls := [some (.ref 397), some (.int x), some (.int y), some (.int z), none]) rfl ?_
  refine e_cn (pc' := 3) i164_0 rfl ?_
  refine e_ld (pc' := 4) i164_3 rfl rfl ?_
  refine e_ib (z := 144 * x) (pc' := 5) i164_4 rfl rfl ?_
  refine e_ld (pc' := 6) i164_5 rfl rfl ?_
  refine e_ib (z := (144 * x) + y) (pc' := 7) i164_6 rfl rfl ?_
  refine e_st (ls' := [some (.ref 397), some (.int x), some (.int y), some (.int z), some (.int ((144 * x) + y))]) (pc' := 9) i164_7 rfl rfl rfl ?_
  refine e_ld (pc' := 10) i164_9 rfl rfl ?_
  refine e_get (w := .ref 418) (pc' := 13) i164_10 rfl (x_isC (by decide) hw.1 sh397) (x_fvR (by decide +kernel) (hw.2 397 22 418 lk397_22)) ?_
  refine e_ld (pc' := 15) i164_13 rfl rfl ?_
  refine e_ld (pc' := 16) i164_15 rfl rfl ?_
  refine e_get (w := .ref 429) (pc' := 19) i164_16 rfl (x_isC (by decide) hw.1 sh397) (x_fvR (by decide +kernel) (hw.2 397 33 429 lk397_33)) ?_
  refine e_ld (pc' := 20) i164_19 rfl rfl ?_
  obtain ⟨k1, e2, g3, H⟩ := H
  refine e_al (n := k1) (w := .int (gI h 429 k1)) (pc' := 21) i164_20 rfl (x_alE (a := 20) (by decide) hw.1 sh429 (by decide) e2 g3 (by decide)) (x_clE e2 g3 (by decide)) rfl ?_
  obtain ⟨k4, e5, g6, H⟩ := H
  refine e_as (n := k4) (h' := sI h 418 k4 (gI h 429 k1)) (pc' := 22) i164_21 rfl (x_alE (a := 20) (by decide) hw.1 sh418 (by decide) e5 g6 (by decide)) (x_clE e5 g6 (by decide)) (by rw [(show (SH 418).1 = 20 by rw [sh418])]; rfl) ?_
  have w8 : HW (sI h 418 k4 (gI h 429 k1)) := HW_sI hw
  refine e_ld (pc' := 23) i164_22 rfl rfl ?_
  refine e_get (w := .ref 431) (pc' := 26) i164_23 rfl (x_isC (by decide) w8.1 sh397) (x_fvR (by decide +kernel) (w8.2 397 37 431 lk397_37)) ?_
  refine e_ld (pc' := 27) i164_26 rfl rfl ?_
  refine e_stk (pc' := 28) i164_27 rfl rfl ?_
  refine e_al (n := k1) (w := .int (gI h 431 k1)) (pc' := 29) i164_28 rfl (x_alE (a := 20) (by decide) w8.1 sh431 (by decide) e2 g3 (by decide)) (x_clE e2 g3 (by decide)) (congrArg Value.int (gI_osI (by decide))) ?_
  refine e_cn (pc' := 30) i164_29 rfl ?_
  refine e_ib (z := (gI h 431 k1) + 1) (pc' := 31) i164_30 rfl rfl ?_
  refine e_as (n := k1) (h' := sI (sI h 418 k4 (gI h 429 k1)) 431 k1 ((gI h 431 k1) + 1)) (pc' := 32) i164_31 rfl (x_alE (a := 20) (by decide) w8.1 sh431 (by decide) e2 g3 (by decide)) (x_clE e2 g3 (by decide)) (by rw [(show (SH 431).1 = 20 by rw [sh431])]; rfl) ?_
  have w10 : HW (sI (sI h 418 k4 (gI h 429 k1)) 431 k1 ((gI h 431 k1) + 1)) := HW_sI w8
  refine e_ld (pc' := 33) i164_32 rfl rfl ?_
  refine e_get (w := .ref 405) (pc' := 36) i164_33 rfl (x_isC (by decide) w10.1 sh397) (x_fvR (by decide +kernel) (w10.2 397 8 405 lk397_8)) ?_
  refine e_ld (pc' := 37) i164_36 rfl rfl ?_
  refine e_al (n := k1) (w := .int (gI h 405 k1)) (pc' := 38) i164_37 rfl (x_alE (a := 20) (by decide) w10.1 sh405 (by decide) e2 g3 (by decide)) (x_clE e2 g3 (by decide)) (congrArg Value.int (Eq.trans (gI_osI (by decide)) (gI_osI (by decide)))) ?_
  refine e_cn (pc' := 40) i164_38 rfl ?_
  refine e_ic (pc' := 43) i164_40 rfl (fun c9 => ?_) (fun c9 => ?_)
  · have d10 : ¬ ((gI h 405 k1) = 7) := (of_decide_eq_true c9)
    replace H := H.2 d10
    refine e_ld (pc' := 75) i164_74 rfl rfl ?_
    refine e_get (w := .ref 405) (pc' := 78) i164_75 rfl (x_isC (by decide) w10.1 sh397) (x_fvR (by decide +kernel) (w10.2 397 8 405 lk397_8)) ?_
    refine e_ld (pc' := 79) i164_78 rfl rfl ?_
    refine e_al (n := k1) (w := .int (gI h 405 k1)) (pc' := 80) i164_79 rfl (x_alE (a := 20) (by decide) w10.1 sh405 (by decide) e2 g3 (by decide)) (x_clE e2 g3 (by decide)) (congrArg Value.int (Eq.trans (gI_osI (by decide)) (gI_osI (by decide)))) ?_
    refine e_cn (pc' := 82) i164_80 rfl ?_
    refine e_ic (pc' := 85) i164_82 rfl (fun c11 => ?_) (fun c11 => ?_)
    · have d12 : ¬ ((gI h 405 k1) = 6) := (of_decide_eq_true c11)
      replace H := H.2 d12
      refine e_ld (pc' := 128) i164_127 rfl rfl ?_
      refine e_get (w := .ref 412) (pc' := 131) i164_128 rfl (x_isC (by decide) w10.1 sh397) (x_fvR (by decide +kernel) (w10.2 397 16 412 lk397_16)) ?_
      refine e_ld (pc' := 133) i164_131 rfl rfl ?_
      refine e_ld (pc' := 134) i164_133 rfl rfl ?_
      refine e_as (n := k4) (h' := sI (sI (sI h 418 k4 (gI h 429 k1)) 431 k1 ((gI h 431 k1) + 1)) 412 k4 z) (pc' := 135) i164_134 rfl (x_alE (a := 20) (by decide) w10.1 sh412 (by decide) e5 g6 (by decide)) (x_clE e5 g6 (by decide)) (by rw [(show (SH 412).1 = 20 by rw [sh412])]; rfl) ?_
      have w16 : HW (sI (sI (sI h 418 k4 (gI h 429 k1)) 431 k1 ((gI h 431 k1) + 1)) 412 k4 z) := HW_sI w10
      refine e_rt i164_135 rfl ?_
      exact H
    · have d14 : (gI h 405 k1) = 6 := (Decidable.not_not.mp (of_decide_eq_false c11))
      replace H := H.1 d14
      refine e_ld (pc' := 86) i164_85 rfl rfl ?_
      refine e_get (w := .ref 417) (pc' := 89) i164_86 rfl (x_isC (by decide) w10.1 sh397) (x_fvR (by decide +kernel) (w10.2 397 21 417 lk397_21)) ?_
      refine e_ld (pc' := 90) i164_89 rfl rfl ?_
      refine e_get (w := .ref 402) (pc' := 93) i164_90 rfl (x_isC (by decide) w10.1 sh397) (x_fvR (by decide +kernel) (w10.2 397 5 402 lk397_5)) ?_
      refine e_cn (pc' := 94) i164_93 rfl ?_
      refine e_ld (pc' := 95) i164_94 rfl rfl ?_
      refine e_get (w := .ref 407) (pc' := 98) i164_95 rfl (x_isC (by decide) w10.1 sh397) (x_fvR (by decide +kernel) (w10.2 397 10 407 lk397_10)) ?_
      refine e_ld (pc' := 99) i164_98 rfl rfl ?_
      refine e_al (n := k1) (w := .int (gI h 407 k1)) (pc' := 100) i164_99 rfl (x_alE (a := 20) (by decide) w10.1 sh407 (by decide) e2 g3 (by decide)) (x_clE e2 g3 (by decide)) (congrArg Value.int (Eq.trans (gI_osI (by decide)) (gI_osI (by decide)))) ?_
      refine e_ib (z := 2 * (gI h 407 k1)) (pc' := 101) i164_100 rfl rfl ?_
      obtain ⟨k15, e16, g17, H⟩ := H
      refine e_al (n := k15) (w := .int (gI h 402 k15)) (pc' := 102) i164_101 rfl (x_alE (a := 20) (by decide) w10.1 sh402 (by decide) e16 g17 (by decide)) (x_clE e16 g17 (by decide)) (congrArg Value.int (Eq.trans (gI_osI (by decide)) (gI_osI (by decide)))) ?_
      refine e_ld (pc' := 103) i164_102 rfl rfl ?_
      refine e_reg (pc' := 119) (ls' := [some (.ref 397), some (.int x), some (.int y), some (.int z), some (.int ((144 * x) + y))]) (st' := [.int (if (gI h 402 k15) = z then (2 * ((144 * x) + y)) else ((2 * ((144 * x) + y)) + 1)), .ref 417]) (fun kj18 => ?_) ?_
      · skip
        refine e_ic (pc' := 106) i164_103 rfl (fun c19 => ?_) (fun c19 => ?_)
        · have d20 : ¬ ((gI h 402 k15) = z) := (of_decide_eq_true c19)
          refine e_cn (pc' := 114) i164_113 rfl ?_
          refine e_ld (pc' := 116) i164_114 rfl rfl ?_
          refine e_ib (z := 2 * ((144 * x) + y)) (pc' := 117) i164_116 rfl rfl ?_
          refine e_cn (pc' := 118) i164_117 rfl ?_
          refine e_ib (z := (2 * ((144 * x) + y)) + 1) (pc' := 119) i164_118 rfl rfl ?_
          exact (by simp only [if_neg d20] at kj18 ⊢; exact kj18)
        · have d21 : (gI h 402 k15) = z := (Decidable.not_not.mp (of_decide_eq_false c19))
          refine e_cn (pc' := 107) i164_106 rfl ?_
          refine e_ld (pc' := 109) i164_107 rfl rfl ?_
          refine e_ib (z := 2 * ((144 * x) + y)) (pc' := 110) i164_109 rfl rfl ?_
          refine e_go i164_110 ?_
          exact (by simp only [if_pos d21] at kj18 ⊢; exact kj18)
      refine e_stk (pc' := 120) i164_119 rfl rfl ?_
      obtain ⟨k22, e23, g24, H⟩ := H
      refine e_al (n := k22) (w := .int (gI h 417 k22)) (pc' := 121) i164_120 rfl (x_alE (a := 20) (by decide) w10.1 sh417 (by decide) e23 g24 (by decide)) (x_clE e23 g24 (by decide)) (congrArg Value.int (Eq.trans (gI_osI (by decide)) (gI_osI (by decide)))) ?_
      refine e_cn (pc' := 122) i164_121 rfl ?_
      refine e_ib (z := (gI h 417 k22) + 1) (pc' := 123) i164_122 rfl rfl ?_
      refine e_as (n := k22) (h' := sI (sI (sI h 418 k4 (gI h 429 k1)) 431 k1 ((gI h 431 k1) + 1)) 417 k22 ((gI h 417 k22) + 1)) (pc' := 124) i164_123 rfl (x_alE (a := 20) (by decide) w10.1 sh417 (by decide) e23 g24 (by decide)) (x_clE e23 g24 (by decide)) (by rw [(show (SH 417).1 = 20 by rw [sh417])]; rfl) ?_
      have w28 : HW (sI (sI (sI h 418 k4 (gI h 429 k1)) 431 k1 ((gI h 431 k1) + 1)) 417 k22 ((gI h 417 k22) + 1)) := HW_sI w10
      refine e_go i164_124 ?_
      refine e_rt i164_135 rfl ?_
      exact H
  · have d26 : (gI h 405 k1) = 7 := (Decidable.not_not.mp (of_decide_eq_false c9))
    replace H := H.1 d26
    refine e_ld (pc' := 44) i164_43 rfl rfl ?_
    refine e_stk (pc' := 45) i164_44 rfl rfl ?_
    refine e_get (w := .int (gI h 397 35)) (pc' := 48) i164_45 rfl (x_isC (by decide) w10.1 sh397) (congrArg Value.int (Eq.trans (gI_osI (by decide)) (gI_osI (by decide)))) ?_
    refine e_cn (pc' := 49) i164_48 rfl ?_
    refine e_ib (z := (gI h 397 35) + 1) (pc' := 50) i164_49 rfl rfl ?_
    refine e_put (h' := sI (sI (sI h 418 k4 (gI h 429 k1)) 431 k1 ((gI h 431 k1) + 1)) 397 35 ((gI h 397 35) + 1)) (pc' := 53) i164_50 rfl (x_isC (by decide) w10.1 sh397) rfl ?_
    have w30 : HW (sI (sI (sI h 418 k4 (gI h 429 k1)) 431 k1 ((gI h 431 k1) + 1)) 397 35 ((gI h 397 35) + 1)) := HW_sI w10
    refine e_ld (pc' := 54) i164_53 rfl rfl ?_
    refine e_get (w := .ref 411) (pc' := 57) i164_54 rfl (x_isC (by decide) w30.1 sh397) (x_fvR (by decide +kernel) (w30.2 397 15 411 lk397_15)) ?_
    refine e_ld (pc' := 58) i164_57 rfl rfl ?_
    refine e_stk (pc' := 59) i164_58 rfl rfl ?_
    obtain ⟨k28, e29, g30, H⟩ := H
    refine e_al (n := k28) (w := .int (gI h 411 k28)) (pc' := 60) i164_59 rfl (x_alE (a := 20) (by decide) w30.1 sh411 (by decide) e29 g30 (by decide)) (x_clE e29 g30 (by decide)) (congrArg Value.int (Eq.trans (gI_osI (by decide)) (Eq.trans (gI_osI (by decide)) (gI_osI (by decide))))) ?_
    refine e_ld (pc' := 61) i164_60 rfl rfl ?_
    refine e_reg (pc' := 69) (ls' := [some (.ref 397), some (.int x), some (.int y), some (.int z), some (.int ((144 * x) + y))]) (st' := [.int (b2i (if x = 0 then (true) else (false))), .int (gI h 411 k28), .int z, .ref 411]) (fun kj31 => ?_) ?_
    · skip
      refine e_if (pc' := 64) i164_61 rfl (fun c32 => ?_) (fun c32 => ?_)
      · have d33 : ¬ (x = 0) := (of_decide_eq_true c32)
        refine e_cn (pc' := 69) i164_68 rfl ?_
        exact (by simp only [if_neg d33] at kj31 ⊢; exact kj31)
      · have d34 : x = 0 := (Decidable.not_not.mp (of_decide_eq_false c32))
        refine e_cn (pc' := 65) i164_64 rfl ?_
        refine e_go i164_65 ?_
        exact (by simp only [if_pos d34] at kj31 ⊢; exact kj31)
    refine e_ib (z := (gI h 411 k28) + (b2i (if x = 0 then (true) else (false)))) (pc' := 70) i164_69 rfl rfl ?_
    refine e_as (n := k28) (h' := sI (sI (sI (sI h 418 k4 (gI h 429 k1)) 431 k1 ((gI h 431 k1) + 1)) 397 35 ((gI h 397 35) + 1)) 411 k28 ((gI h 411 k28) + (b2i (if x = 0 then (true) else (false))))) (pc' := 71) i164_70 rfl (x_alE (a := 20) (by decide) w30.1 sh411 (by decide) e29 g30 (by decide)) (x_clE e29 g30 (by decide)) (by rw [(show (SH 411).1 = 20 by rw [sh411])]; rfl) ?_
    have w39 : HW (sI (sI (sI (sI h 418 k4 (gI h 429 k1)) 431 k1 ((gI h 431 k1) + 1)) 397 35 ((gI h 397 35) + 1)) 411 k28 ((gI h 411 k28) + (b2i (if x = 0 then (true) else (false))))) := HW_sI w30
    refine e_go i164_71 ?_
    refine e_rt i164_135 rfl ?_
    exact H
-- FloorTurnModel.measures()V
set_option maxHeartbeats 8000000 in
set_option maxRecDepth 100000 in
theorem v165 {L : Nat} {xs : Nat → Int32} {Q : Option Value → Hp → Prop} {h : Hp}  (hw : HW h) 
  (H : WP L xs 165 12 [some (.ref 397), some (.int 0)] [] (sI (sI h 397 35 0) 397 36 0) Q) : ∃ r h', Sp L xs 165 [.ref 397] h r h' ∧ Q r h' := by
  refine sp_ex (ls := [some (.ref 397), none]) rfl ?_
  refine e_ld (pc' := 1) i165_0 rfl rfl ?_
  refine e_cn (pc' := 2) i165_1 rfl ?_
  refine e_put (h' := sI h 397 35 0) (pc' := 5) i165_2 rfl (x_isC (by decide) hw.1 sh397) rfl ?_
  have w2 : HW (sI h 397 35 0) := HW_sI hw
  refine e_ld (pc' := 6) i165_5 rfl rfl ?_
  refine e_cn (pc' := 7) i165_6 rfl ?_
  refine e_put (h' := sI (sI h 397 35 0) 397 36 0) (pc' := 10) i165_7 rfl (x_isC (by decide) w2.1 sh397) rfl ?_
  have w4 : HW (sI (sI h 397 35 0) 397 36 0) := HW_sI w2
  refine e_cn (pc' := 11) i165_10 rfl ?_
  refine e_st (ls' := [some (.ref 397), some (.int 0)]) (pc' := 12) i165_11 rfl rfl rfl ?_
  exact H
set_option maxHeartbeats 8000000 in
set_option maxRecDepth 100000 in
theorem v165_12 {L : Nat} {xs : Nat → Int32} {Q : Option Value → Hp → Prop} {h : Hp} {l1 : Int32} (hw : HW h) 
  (H : ((144 ≤ l1) → (Q none h)) ∧ (¬ (144 ≤ l1) → (∃ k4 : Nat, l1 = nI k4 ∧ k4 < 144 ∧ WP L xs 165 12 [some (.ref 397), some (.int (l1 + 1))] [] (sI (sI (sI h 431 k4 0) 432 k4 0) 433 k4 0) Q))) : WP L xs 165 12 [some (.ref 397), some (.int l1)] [] h Q := by
  refine e_ld (pc' := 13) i165_12 rfl rfl ?_
  refine e_cn (pc' := 16) i165_13 rfl ?_
  refine e_ic (pc' := 19) i165_16 rfl (fun c1 => ?_) (fun c1 => ?_)
  · have d2 : 144 ≤ l1 := (of_decide_eq_true c1)
    replace H := H.1 d2
    refine e_rt i165_46 rfl ?_
    exact H
  · have d3 : ¬ (144 ≤ l1) := (of_decide_eq_false c1)
    replace H := H.2 d3
    refine e_ld (pc' := 20) i165_19 rfl rfl ?_
    refine e_get (w := .ref 431) (pc' := 23) i165_20 rfl (x_isC (by decide) hw.1 sh397) (x_fvR (by decide +kernel) (hw.2 397 37 431 lk397_37)) ?_
    refine e_ld (pc' := 24) i165_23 rfl rfl ?_
    refine e_cn (pc' := 25) i165_24 rfl ?_
    obtain ⟨k4, e5, g6, H⟩ := H
    refine e_as (n := k4) (h' := sI h 431 k4 0) (pc' := 26) i165_25 rfl (x_alE (a := 20) (by decide) hw.1 sh431 (by decide) e5 g6 (by decide)) (x_clE e5 g6 (by decide)) (by rw [(show (SH 431).1 = 20 by rw [sh431])]; rfl) ?_
    have w8 : HW (sI h 431 k4 0) := HW_sI hw
    refine e_ld (pc' := 27) i165_26 rfl rfl ?_
    refine e_get (w := .ref 432) (pc' := 30) i165_27 rfl (x_isC (by decide) w8.1 sh397) (x_fvR (by decide +kernel) (w8.2 397 38 432 lk397_38)) ?_
    refine e_ld (pc' := 31) i165_30 rfl rfl ?_
    refine e_cn (pc' := 32) i165_31 rfl ?_
    refine e_as (n := k4) (h' := sI (sI h 431 k4 0) 432 k4 0) (pc' := 33) i165_32 rfl (x_alE (a := 20) (by decide) w8.1 sh432 (by decide) e5 g6 (by decide)) (x_clE e5 g6 (by decide)) (by rw [(show (SH 432).1 = 20 by rw [sh432])]; rfl) ?_
    have w10 : HW (sI (sI h 431 k4 0) 432 k4 0) := HW_sI w8
    refine e_ld (pc' := 34) i165_33 rfl rfl ?_
    refine e_get (w := .ref 433) (pc' := 37) i165_34 rfl (x_isC (by decide) w10.1 sh397) (x_fvR (by decide +kernel) (w10.2 397 39 433 lk397_39)) ?_
    refine e_ld (pc' := 38) i165_37 rfl rfl ?_
    refine e_cn (pc' := 39) i165_38 rfl ?_
    refine e_as (n := k4) (h' := sI (sI (sI h 431 k4 0) 432 k4 0) 433 k4 0) (pc' := 40) i165_39 rfl (x_alE (a := 20) (by decide) w10.1 sh433 (by decide) e5 g6 (by decide)) (x_clE e5 g6 (by decide)) (by rw [(show (SH 433).1 = 20 by rw [sh433])]; rfl) ?_
    have w12 : HW (sI (sI (sI h 431 k4 0) 432 k4 0) 433 k4 0) := HW_sI w10
    refine e_inc (z := l1 + 1) (ls' := [some (.ref 397), some (.int (l1 + 1))]) (pc' := 43) i165_40 rfl rfl rfl rfl ?_
    refine e_go i165_43 ?_
    exact H
-- FloorTurnModel.tick(I)I
set_option maxHeartbeats 8000000 in
set_option maxRecDepth 100000 in
theorem v166 {L : Nat} {xs : Nat → Int32} {Q : Option Value → Hp → Prop} {h : Hp} {x : Int32} (hw : HW h) 
  (H : (((x_in3 x 1 200) = true) → (((((gI h 397 14) + x) ≤ 20000) → (∃ (h5 : Hp), Sp L xs 165 [.ref 397] h none h5 ∧ WP L xs 166 43 [some (.ref 397), some (.int x), some (.int 0)] [] h5 Q)) ∧ (¬ (((gI h 397 14) + x) ≤ 20000) → (∃ (r11 : Int32) (h9 : Hp), Sp L xs 124 [.ref 397, .int (-7)] h (some (.int r11)) h9 ∧ Q (some (.int r11)) h9)))) ∧ (¬ ((x_in3 x 1 200) = true) → (∃ (r16 : Int32) (h14 : Hp), Sp L xs 124 [.ref 397, .int (-6)] h (some (.int r16)) h14 ∧ Q (some (.int r16)) h14))) : ∃ r h', Sp L xs 166 [.ref 397, .int x] h r h' ∧ Q r h' := by
  refine sp_ex (ls := [some (.ref 397), some (.int x), none]) rfl ?_
  refine e_ld (pc' := 1) i166_0 rfl rfl ?_
  refine e_cn (pc' := 2) i166_1 rfl ?_
  refine e_cn (pc' := 5) i166_2 rfl ?_
  refine e_cI (w := .int (b2i (x_in3 x 1 200))) (As := [.int x, .int 1, .int 200]) (rest := []) (pc' := 8) i166_5 rfl rfl rfl rfl rfl m123 ?_
  refine e_b1 (pc' := 11) i166_8 rfl (fun c1 => ?_) (fun c1 => ?_)
  · have d2 : (x_in3 x 1 200) = true := c1
    replace H := H.1 d2
    refine e_ld (pc' := 19) i166_18 rfl rfl ?_
    refine e_get (w := .int (gI h 397 14)) (pc' := 22) i166_19 rfl (x_isC (by decide) hw.1 sh397) rfl ?_
    refine e_ld (pc' := 23) i166_22 rfl rfl ?_
    refine e_ib (z := (gI h 397 14) + x) (pc' := 24) i166_23 rfl rfl ?_
    refine e_cn (pc' := 27) i166_24 rfl ?_
    refine e_ic (pc' := 30) i166_27 rfl (fun c3 => ?_) (fun c3 => ?_)
    · have d4 : ((gI h 397 14) + x) ≤ 20000 := (of_decide_eq_true c3)
      replace H := H.1 d4
      refine e_ld (pc' := 38) i166_37 rfl rfl ?_
      obtain ⟨h5, s6, H⟩ := H
      have w8q := HW_sp (show x_okm 165 = true by rfl) s6 hw
      have w8 : HW h5 := w8q.1
      refine e_cV (As := [.ref 397]) (rest := []) (pc' := 41) i166_38 rfl rfl rfl rfl (by show (Nat.beq (x_kd 165) 0 && x_is 397 _ (MC 165) 0) = true; rw [show x_kd 165 = 0 by decide +kernel, show MC 165 = 11 by decide +kernel, (x_isC (by decide) hw.1 sh397)]; rfl) s6 ?_
      refine e_cn (pc' := 42) i166_41 rfl ?_
      refine e_st (ls' := [some (.ref 397), some (.int x), some (.int 0)]) (pc' := 43) i166_42 rfl rfl rfl ?_
      exact H
    · have d8 : ¬ (((gI h 397 14) + x) ≤ 20000) := (of_decide_eq_false c3)
      replace H := H.2 d8
      refine e_ld (pc' := 31) i166_30 rfl rfl ?_
      refine e_cn (pc' := 33) i166_31 rfl ?_
      obtain ⟨r11, h9, s10, H⟩ := H
      have w13q := HW_sp (show x_okm 124 = true by rfl) s10 hw
      have w13 : HW h9 := w13q.1
      refine e_cI (w := .int r11) (As := [.ref 397, .int (-7)]) (rest := []) (pc' := 36) i166_33 rfl rfl rfl rfl (by show (Nat.beq (x_kd 124) 0 && x_is 397 _ (MC 124) 0) = true; rw [show x_kd 124 = 0 by decide +kernel, show MC 124 = 11 by decide +kernel, (x_isC (by decide) hw.1 sh397)]; rfl) s10 ?_
      refine e_rt i166_36 rfl ?_
      exact H
  · have d13 : ¬ ((x_in3 x 1 200) = true) := (show ¬ (x_in3 x 1 200) = true by rw [c1]; decide)
    replace H := H.2 d13
    refine e_ld (pc' := 12) i166_11 rfl rfl ?_
    refine e_cn (pc' := 14) i166_12 rfl ?_
    obtain ⟨r16, h14, s15, H⟩ := H
    have w18q := HW_sp (show x_okm 124 = true by rfl) s15 hw
    have w18 : HW h14 := w18q.1
    refine e_cI (w := .int r16) (As := [.ref 397, .int (-6)]) (rest := []) (pc' := 17) i166_14 rfl rfl rfl rfl (by show (Nat.beq (x_kd 124) 0 && x_is 397 _ (MC 124) 0) = true; rw [show x_kd 124 = 0 by decide +kernel, show MC 124 = 11 by decide +kernel, (x_isC (by decide) hw.1 sh397)]; rfl) s15 ?_
    refine e_rt i166_17 rfl ?_
    exact H
set_option maxHeartbeats 8000000 in
set_option maxRecDepth 100000 in
theorem v166_43 {L : Nat} {xs : Nat → Int32} {Q : Option Value → Hp → Prop} {h : Hp} {l1 : Int32} {l2 : Int32} (hw : HW h) 
  (H : ((l1 ≤ l2) → (WP L xs 166 71 [some (.ref 397), some (.int l1), some (.int 0)] [] (sI h 397 14 ((gI h 397 14) + l1)) Q)) ∧ (¬ (l1 ≤ l2) → (∃ (h5 : Hp), Sp L xs 162 [.ref 397, .int 0] h none h5 ∧ WP L xs 166 43 [some (.ref 397), some (.int l1), some (.int (l2 + 1))] [] h5 Q))) : WP L xs 166 43 [some (.ref 397), some (.int l1), some (.int l2)] [] h Q := by
  refine e_ld (pc' := 44) i166_43 rfl rfl ?_
  refine e_ld (pc' := 45) i166_44 rfl rfl ?_
  refine e_ic (pc' := 48) i166_45 rfl (fun c1 => ?_) (fun c1 => ?_)
  · have d2 : l1 ≤ l2 := (of_decide_eq_true c1)
    replace H := H.1 d2
    refine e_ld (pc' := 60) i166_59 rfl rfl ?_
    refine e_stk (pc' := 61) i166_60 rfl rfl ?_
    refine e_get (w := .int (gI h 397 14)) (pc' := 64) i166_61 rfl (x_isC (by decide) hw.1 sh397) rfl ?_
    refine e_ld (pc' := 65) i166_64 rfl rfl ?_
    refine e_ib (z := (gI h 397 14) + l1) (pc' := 66) i166_65 rfl rfl ?_
    refine e_put (h' := sI h 397 14 ((gI h 397 14) + l1)) (pc' := 69) i166_66 rfl (x_isC (by decide) hw.1 sh397) rfl ?_
    have w4 : HW (sI h 397 14 ((gI h 397 14) + l1)) := HW_sI hw
    refine e_cn (pc' := 70) i166_69 rfl ?_
    refine e_st (ls' := [some (.ref 397), some (.int l1), some (.int 0)]) (pc' := 71) i166_70 rfl rfl rfl ?_
    exact H
  · have d4 : ¬ (l1 ≤ l2) := (of_decide_eq_false c1)
    replace H := H.2 d4
    refine e_ld (pc' := 49) i166_48 rfl rfl ?_
    refine e_cn (pc' := 50) i166_49 rfl ?_
    obtain ⟨h5, s6, H⟩ := H
    have w8q := HW_sp (show x_okm 162 = true by rfl) s6 hw
    have w8 : HW h5 := w8q.1
    refine e_cV (As := [.ref 397, .int 0]) (rest := []) (pc' := 53) i166_50 rfl rfl rfl rfl (by show (Nat.beq (x_kd 162) 0 && x_is 397 _ (MC 162) 0) = true; rw [show x_kd 162 = 0 by decide +kernel, show MC 162 = 11 by decide +kernel, (x_isC (by decide) hw.1 sh397)]; rfl) s6 ?_
    refine e_inc (z := l2 + 1) (ls' := [some (.ref 397), some (.int l1), some (.int (l2 + 1))]) (pc' := 56) i166_53 rfl rfl rfl rfl ?_
    refine e_go i166_56 ?_
    exact H
set_option maxHeartbeats 8000000 in
set_option maxRecDepth 100000 in
theorem v166_71 {L : Nat} {xs : Nat → Int32} {Q : Option Value → Hp → Prop} {h : Hp} {z1 : Option Value} {l2 : Int32} (hw : HW h)  (z1_z : x_wide (some z1) = false)
  (H : ((144 ≤ l2) → (Q (some (.int (gI h 397 35))) h)) ∧ (¬ (144 ≤ l2) → (∃ k4 : Nat, l2 = nI k4 ∧ k4 < 144 ∧ WP L xs 166 71 [some (.ref 397), z1, some (.int (l2 + 1))] [] (sI (sI h 409 k4 ((gI h 409 k4) + (gI h 431 k4))) 410 k4 ((gI h 410 k4) + (gI h 432 k4))) Q))) : WP L xs 166 71 [some (.ref 397), z1, some (.int l2)] [] h Q := by
  refine e_ld (pc' := 72) i166_71 rfl rfl ?_
  refine e_cn (pc' := 75) i166_72 rfl ?_
  refine e_ic (pc' := 78) i166_75 rfl (fun c1 => ?_) (fun c1 => ?_)
  · have d2 : 144 ≤ l2 := (of_decide_eq_true c1)
    replace H := H.1 d2
    refine e_ld (pc' := 115) i166_114 rfl rfl ?_
    refine e_get (w := .int (gI h 397 35)) (pc' := 118) i166_115 rfl (x_isC (by decide) hw.1 sh397) rfl ?_
    refine e_rt i166_118 rfl ?_
    exact H
  · have d3 : ¬ (144 ≤ l2) := (of_decide_eq_false c1)
    replace H := H.2 d3
    refine e_ld (pc' := 79) i166_78 rfl rfl ?_
    refine e_get (w := .ref 409) (pc' := 82) i166_79 rfl (x_isC (by decide) hw.1 sh397) (x_fvR (by decide +kernel) (hw.2 397 12 409 lk397_12)) ?_
    refine e_ld (pc' := 83) i166_82 rfl rfl ?_
    refine e_stk (pc' := 84) i166_83 rfl rfl ?_
    obtain ⟨k4, e5, g6, H⟩ := H
    refine e_al (n := k4) (w := .int (gI h 409 k4)) (pc' := 85) i166_84 rfl (x_alE (a := 20) (by decide) hw.1 sh409 (by decide) e5 g6 (by decide)) (x_clE e5 g6 (by decide)) rfl ?_
    refine e_ld (pc' := 86) i166_85 rfl rfl ?_
    refine e_get (w := .ref 431) (pc' := 89) i166_86 rfl (x_isC (by decide) hw.1 sh397) (x_fvR (by decide +kernel) (hw.2 397 37 431 lk397_37)) ?_
    refine e_ld (pc' := 90) i166_89 rfl rfl ?_
    refine e_al (n := k4) (w := .int (gI h 431 k4)) (pc' := 91) i166_90 rfl (x_alE (a := 20) (by decide) hw.1 sh431 (by decide) e5 g6 (by decide)) (x_clE e5 g6 (by decide)) rfl ?_
    refine e_ib (z := (gI h 409 k4) + (gI h 431 k4)) (pc' := 92) i166_91 rfl rfl ?_
    refine e_as (n := k4) (h' := sI h 409 k4 ((gI h 409 k4) + (gI h 431 k4))) (pc' := 93) i166_92 rfl (x_alE (a := 20) (by decide) hw.1 sh409 (by decide) e5 g6 (by decide)) (x_clE e5 g6 (by decide)) (by rw [(show (SH 409).1 = 20 by rw [sh409])]; rfl) ?_
    have w8 : HW (sI h 409 k4 ((gI h 409 k4) + (gI h 431 k4))) := HW_sI hw
    refine e_ld (pc' := 94) i166_93 rfl rfl ?_
    refine e_get (w := .ref 410) (pc' := 97) i166_94 rfl (x_isC (by decide) w8.1 sh397) (x_fvR (by decide +kernel) (w8.2 397 13 410 lk397_13)) ?_
    refine e_ld (pc' := 98) i166_97 rfl rfl ?_
    refine e_stk (pc' := 99) i166_98 rfl rfl ?_
    refine e_al (n := k4) (w := .int (gI h 410 k4)) (pc' := 100) i166_99 rfl (x_alE (a := 20) (by decide) w8.1 sh410 (by decide) e5 g6 (by decide)) (x_clE e5 g6 (by decide)) (congrArg Value.int (gI_osI (by decide))) ?_
    refine e_ld (pc' := 101) i166_100 rfl rfl ?_
    refine e_get (w := .ref 432) (pc' := 104) i166_101 rfl (x_isC (by decide) w8.1 sh397) (x_fvR (by decide +kernel) (w8.2 397 38 432 lk397_38)) ?_
    refine e_ld (pc' := 105) i166_104 rfl rfl ?_
    refine e_al (n := k4) (w := .int (gI h 432 k4)) (pc' := 106) i166_105 rfl (x_alE (a := 20) (by decide) w8.1 sh432 (by decide) e5 g6 (by decide)) (x_clE e5 g6 (by decide)) (congrArg Value.int (gI_osI (by decide))) ?_
    refine e_ib (z := (gI h 410 k4) + (gI h 432 k4)) (pc' := 107) i166_106 rfl rfl ?_
    refine e_as (n := k4) (h' := sI (sI h 409 k4 ((gI h 409 k4) + (gI h 431 k4))) 410 k4 ((gI h 410 k4) + (gI h 432 k4))) (pc' := 108) i166_107 rfl (x_alE (a := 20) (by decide) w8.1 sh410 (by decide) e5 g6 (by decide)) (x_clE e5 g6 (by decide)) (by rw [(show (SH 410).1 = 20 by rw [sh410])]; rfl) ?_
    have w10 : HW (sI (sI h 409 k4 ((gI h 409 k4) + (gI h 431 k4))) 410 k4 ((gI h 410 k4) + (gI h 432 k4))) := HW_sI w8
    refine e_inc (z := l2 + 1) (ls' := [some (.ref 397), z1, some (.int (l2 + 1))]) (pc' := 111) i166_108 rfl rfl rfl ((x_stz (a := 1) rfl z1_z rfl).trans rfl) ?_
    refine e_go i166_111 ?_
    exact H
-- FloorTurnModel.copies(II)V
set_option maxHeartbeats 8000000 in
set_option maxRecDepth 100000 in
theorem v167 {L : Nat} {xs : Nat → Int32} {Q : Option Value → Hp → Prop} {h : Hp} {x : Int32} {y : Int32} (hw : HW h) 
  (H : WP L xs 167 2 [some (.ref 397), some (.int x), some (.int y), some (.int 0), none, none] [] h Q) : ∃ r h', Sp L xs 167 [.ref 397, .int x, .int y] h r h' ∧ Q r h' := by
  refine sp_ex (ls := [some (.ref 397), some (.int x), some (.int y), none, none, none]) rfl ?_
  refine e_cn (pc' := 1) i167_0 rfl ?_
  refine e_st (ls' := [some (.ref 397), some (.int x), some (.int y), some (.int 0), none, none]) (pc' := 2) i167_1 rfl rfl rfl ?_
  exact H
set_option maxHeartbeats 8000000 in
set_option maxRecDepth 100000 in
theorem v167_2 {L : Nat} {xs : Nat → Int32} {Q : Option Value → Hp → Prop} {h : Hp} {l1 : Int32} {l2 : Int32} {l3 : Int32} {z4 : Option Value} {z5 : Option Value} (hw : HW h) 
  (H : ((144 ≤ l3) → (Q none h)) ∧ (¬ (144 ≤ l3) → (∃ k4 : Nat, ((144 * l2) + l3) = nI k4 ∧ k4 < 432 ∧ ∃ k7 : Nat, ((144 * l1) + l3) = nI k7 ∧ k7 < 432 ∧ (x_ok01 (gI h 416 k4) = true) ∧ ∃ k16 : Nat, (2 * ((144 * l2) + l3)) = nI k16 ∧ k16 < 864 ∧ ∃ k19 : Nat, (2 * ((144 * l1) + l3)) = nI k19 ∧ k19 < 864 ∧ ∃ k23 : Nat, ((2 * ((144 * l2) + l3)) + 1) = nI k23 ∧ k23 < 864 ∧ ∃ k26 : Nat, ((2 * ((144 * l1) + l3)) + 1) = nI k26 ∧ k26 < 864 ∧ WP L xs 167 2 [some (.ref 397), some (.int l1), some (.int l2), some (.int (l3 + 1)), some (.int ((144 * l1) + l3)), some (.int ((144 * l2) + l3))] [] (sI (sI (sI (sI (sI (sI (sI (sI (sI h 412 k7 (gI h 412 k4)) 413 k7 (gI h 413 k4)) 414 k7 (gI h 414 k4)) 415 k7 (gI h 415 k4)) 416 k7 (gI h 416 k4)) 417 k19 (gI h 417 k16)) 417 k26 (gI (sI (sI (sI (sI (sI (sI h 412 k7 (gI h 412 k4)) 413 k7 (gI h 413 k4)) 414 k7 (gI h 414 k4)) 415 k7 (gI h 415 k4)) 416 k7 (gI h 416 k4)) 417 k19 (gI h 417 k16)) 417 k23)) 418 k7 (gI h 418 k4)) 419 k7 (gI h 419 k4)) Q))) : WP L xs 167 2 [some (.ref 397), some (.int l1), some (.int l2), some (.int l3), z4, z5] [] h Q := by
  refine e_ld (pc' := 3) i167_2 rfl rfl ?_
  refine e_cn (pc' := 6) i167_3 rfl ?_
  refine e_ic (pc' := 9) i167_6 rfl (fun c1 => ?_) (fun c1 => ?_)
  · have d2 : 144 ≤ l3 := (of_decide_eq_true c1)
    replace H := H.1 d2
    refine e_rt i167_171 rfl ?_
    exact H
  · have d3 : ¬ (144 ≤ l3) := (of_decide_eq_false c1)
    replace H := H.2 d3
    refine e_cn (pc' := 12) i167_9 rfl ?_
    refine e_ld (pc' := 13) i167_12 rfl rfl ?_
    refine e_ib (z := 144 * l1) (pc' := 14) i167_13 rfl rfl ?_
    refine e_ld (pc' := 15) i167_14 rfl rfl ?_
    refine e_ib (z := (144 * l1) + l3) (pc' := 16) i167_15 rfl rfl ?_
    refine e_st (ls' := [some (.ref 397), some (.int l1), some (.int l2), some (.int l3), some (.int ((144 * l1) + l3)), z5]) (pc' := 18) i167_16 rfl rfl rfl ?_
    refine e_cn (pc' := 21) i167_18 rfl ?_
    refine e_ld (pc' := 22) i167_21 rfl rfl ?_
    refine e_ib (z := 144 * l2) (pc' := 23) i167_22 rfl rfl ?_
    refine e_ld (pc' := 24) i167_23 rfl rfl ?_
    refine e_ib (z := (144 * l2) + l3) (pc' := 25) i167_24 rfl rfl ?_
    refine e_st (ls' := [some (.ref 397), some (.int l1), some (.int l2), some (.int l3), some (.int ((144 * l1) + l3)), some (.int ((144 * l2) + l3))]) (pc' := 27) i167_25 rfl rfl rfl ?_
    refine e_ld (pc' := 28) i167_27 rfl rfl ?_
    refine e_get (w := .ref 412) (pc' := 31) i167_28 rfl (x_isC (by decide) hw.1 sh397) (x_fvR (by decide +kernel) (hw.2 397 16 412 lk397_16)) ?_
    refine e_ld (pc' := 33) i167_31 rfl rfl ?_
    refine e_ld (pc' := 34) i167_33 rfl rfl ?_
    refine e_get (w := .ref 412) (pc' := 37) i167_34 rfl (x_isC (by decide) hw.1 sh397) (x_fvR (by decide +kernel) (hw.2 397 16 412 lk397_16)) ?_
    refine e_ld (pc' := 39) i167_37 rfl rfl ?_
    obtain ⟨k4, e5, g6, H⟩ := H
    refine e_al (n := k4) (w := .int (gI h 412 k4)) (pc' := 40) i167_39 rfl (x_alE (a := 20) (by decide) hw.1 sh412 (by decide) e5 g6 (by decide)) (x_clE e5 g6 (by decide)) rfl ?_
    obtain ⟨k7, e8, g9, H⟩ := H
    refine e_as (n := k7) (h' := sI h 412 k7 (gI h 412 k4)) (pc' := 41) i167_40 rfl (x_alE (a := 20) (by decide) hw.1 sh412 (by decide) e8 g9 (by decide)) (x_clE e8 g9 (by decide)) (by rw [(show (SH 412).1 = 20 by rw [sh412])]; rfl) ?_
    have w11 : HW (sI h 412 k7 (gI h 412 k4)) := HW_sI hw
    refine e_ld (pc' := 42) i167_41 rfl rfl ?_
    refine e_get (w := .ref 413) (pc' := 45) i167_42 rfl (x_isC (by decide) w11.1 sh397) (x_fvR (by decide +kernel) (w11.2 397 17 413 lk397_17)) ?_
    refine e_ld (pc' := 47) i167_45 rfl rfl ?_
    refine e_ld (pc' := 48) i167_47 rfl rfl ?_
    refine e_get (w := .ref 413) (pc' := 51) i167_48 rfl (x_isC (by decide) w11.1 sh397) (x_fvR (by decide +kernel) (w11.2 397 17 413 lk397_17)) ?_
    refine e_ld (pc' := 53) i167_51 rfl rfl ?_
    refine e_al (n := k4) (w := .int (gI h 413 k4)) (pc' := 54) i167_53 rfl (x_alE (a := 20) (by decide) w11.1 sh413 (by decide) e5 g6 (by decide)) (x_clE e5 g6 (by decide)) (congrArg Value.int (gI_osI (by decide))) ?_
    refine e_as (n := k7) (h' := sI (sI h 412 k7 (gI h 412 k4)) 413 k7 (gI h 413 k4)) (pc' := 55) i167_54 rfl (x_alE (a := 20) (by decide) w11.1 sh413 (by decide) e8 g9 (by decide)) (x_clE e8 g9 (by decide)) (by rw [(show (SH 413).1 = 20 by rw [sh413])]; rfl) ?_
    have w13 : HW (sI (sI h 412 k7 (gI h 412 k4)) 413 k7 (gI h 413 k4)) := HW_sI w11
    refine e_ld (pc' := 56) i167_55 rfl rfl ?_
    refine e_get (w := .ref 414) (pc' := 59) i167_56 rfl (x_isC (by decide) w13.1 sh397) (x_fvR (by decide +kernel) (w13.2 397 18 414 lk397_18)) ?_
    refine e_ld (pc' := 61) i167_59 rfl rfl ?_
    refine e_ld (pc' := 62) i167_61 rfl rfl ?_
    refine e_get (w := .ref 414) (pc' := 65) i167_62 rfl (x_isC (by decide) w13.1 sh397) (x_fvR (by decide +kernel) (w13.2 397 18 414 lk397_18)) ?_
    refine e_ld (pc' := 67) i167_65 rfl rfl ?_
    refine e_al (n := k4) (w := .int (gI h 414 k4)) (pc' := 68) i167_67 rfl (x_alE (a := 20) (by decide) w13.1 sh414 (by decide) e5 g6 (by decide)) (x_clE e5 g6 (by decide)) (congrArg Value.int (Eq.trans (gI_osI (by decide)) (gI_osI (by decide)))) ?_
    refine e_as (n := k7) (h' := sI (sI (sI h 412 k7 (gI h 412 k4)) 413 k7 (gI h 413 k4)) 414 k7 (gI h 414 k4)) (pc' := 69) i167_68 rfl (x_alE (a := 20) (by decide) w13.1 sh414 (by decide) e8 g9 (by decide)) (x_clE e8 g9 (by decide)) (by rw [(show (SH 414).1 = 20 by rw [sh414])]; rfl) ?_
    have w15 : HW (sI (sI (sI h 412 k7 (gI h 412 k4)) 413 k7 (gI h 413 k4)) 414 k7 (gI h 414 k4)) := HW_sI w13
    refine e_ld (pc' := 70) i167_69 rfl rfl ?_
    refine e_get (w := .ref 415) (pc' := 73) i167_70 rfl (x_isC (by decide) w15.1 sh397) (x_fvR (by decide +kernel) (w15.2 397 19 415 lk397_19)) ?_
    refine e_ld (pc' := 75) i167_73 rfl rfl ?_
    refine e_ld (pc' := 76) i167_75 rfl rfl ?_
    refine e_get (w := .ref 415) (pc' := 79) i167_76 rfl (x_isC (by decide) w15.1 sh397) (x_fvR (by decide +kernel) (w15.2 397 19 415 lk397_19)) ?_
    refine e_ld (pc' := 81) i167_79 rfl rfl ?_
    refine e_al (n := k4) (w := .int (gI h 415 k4)) (pc' := 82) i167_81 rfl (x_alE (a := 20) (by decide) w15.1 sh415 (by decide) e5 g6 (by decide)) (x_clE e5 g6 (by decide)) (congrArg Value.int (Eq.trans (gI_osI (by decide)) (Eq.trans (gI_osI (by decide)) (gI_osI (by decide))))) ?_
    refine e_as (n := k7) (h' := sI (sI (sI (sI h 412 k7 (gI h 412 k4)) 413 k7 (gI h 413 k4)) 414 k7 (gI h 414 k4)) 415 k7 (gI h 415 k4)) (pc' := 83) i167_82 rfl (x_alE (a := 20) (by decide) w15.1 sh415 (by decide) e8 g9 (by decide)) (x_clE e8 g9 (by decide)) (by rw [(show (SH 415).1 = 20 by rw [sh415])]; rfl) ?_
    have w17 : HW (sI (sI (sI (sI h 412 k7 (gI h 412 k4)) 413 k7 (gI h 413 k4)) 414 k7 (gI h 414 k4)) 415 k7 (gI h 415 k4)) := HW_sI w15
    refine e_ld (pc' := 84) i167_83 rfl rfl ?_
    refine e_get (w := .ref 416) (pc' := 87) i167_84 rfl (x_isC (by decide) w17.1 sh397) (x_fvR (by decide +kernel) (w17.2 397 20 416 lk397_20)) ?_
    refine e_ld (pc' := 89) i167_87 rfl rfl ?_
    refine e_ld (pc' := 90) i167_89 rfl rfl ?_
    refine e_get (w := .ref 416) (pc' := 93) i167_90 rfl (x_isC (by decide) w17.1 sh397) (x_fvR (by decide +kernel) (w17.2 397 20 416 lk397_20)) ?_
    refine e_ld (pc' := 95) i167_93 rfl rfl ?_
    refine e_al (n := k4) (w := .int (gI h 416 k4)) (pc' := 96) i167_95 rfl (x_alE (a := 22) (by decide) w17.1 sh416 (by decide) e5 g6 (by decide)) (x_clE e5 g6 (by decide)) (congrArg Value.int (Eq.trans (gI_osI (by decide)) (Eq.trans (gI_osI (by decide)) (Eq.trans (gI_osI (by decide)) (gI_osI (by decide)))))) ?_
    obtain ⟨g14, H⟩ := H
    refine e_as (n := k7) (h' := sI (sI (sI (sI (sI h 412 k7 (gI h 412 k4)) 413 k7 (gI h 413 k4)) 414 k7 (gI h 414 k4)) 415 k7 (gI h 415 k4)) 416 k7 (gI h 416 k4)) (pc' := 97) i167_96 rfl (x_alE (a := 22) (by decide) w17.1 sh416 (by decide) e8 g9 (by decide)) (x_clE e8 g9 (by decide)) (by rw [(show (SH 416).1 = 22 by rw [sh416])]; simp only [x_aput, g14, cond_true]) ?_
    have w20 : HW (sI (sI (sI (sI (sI h 412 k7 (gI h 412 k4)) 413 k7 (gI h 413 k4)) 414 k7 (gI h 414 k4)) 415 k7 (gI h 415 k4)) 416 k7 (gI h 416 k4)) := HW_sI w17
    refine e_ld (pc' := 98) i167_97 rfl rfl ?_
    refine e_get (w := .ref 417) (pc' := 101) i167_98 rfl (x_isC (by decide) w20.1 sh397) (x_fvR (by decide +kernel) (w20.2 397 21 417 lk397_21)) ?_
    refine e_cn (pc' := 102) i167_101 rfl ?_
    refine e_ld (pc' := 104) i167_102 rfl rfl ?_
    refine e_ib (z := 2 * ((144 * l1) + l3)) (pc' := 105) i167_104 rfl rfl ?_
    refine e_ld (pc' := 106) i167_105 rfl rfl ?_
    refine e_get (w := .ref 417) (pc' := 109) i167_106 rfl (x_isC (by decide) w20.1 sh397) (x_fvR (by decide +kernel) (w20.2 397 21 417 lk397_21)) ?_
    refine e_cn (pc' := 110) i167_109 rfl ?_
    refine e_ld (pc' := 112) i167_110 rfl rfl ?_
    refine e_ib (z := 2 * ((144 * l2) + l3)) (pc' := 113) i167_112 rfl rfl ?_
    obtain ⟨k16, e17, g18, H⟩ := H
    refine e_al (n := k16) (w := .int (gI h 417 k16)) (pc' := 114) i167_113 rfl (x_alE (a := 20) (by decide) w20.1 sh417 (by decide) e17 g18 (by decide)) (x_clE e17 g18 (by decide)) (congrArg Value.int (Eq.trans (gI_osI (by decide)) (Eq.trans (gI_osI (by decide)) (Eq.trans (gI_osI (by decide)) (Eq.trans (gI_osI (by decide)) (gI_osI (by decide))))))) ?_
    obtain ⟨k19, e20, g21, H⟩ := H
    refine e_as (n := k19) (h' := sI (sI (sI (sI (sI (sI h 412 k7 (gI h 412 k4)) 413 k7 (gI h 413 k4)) 414 k7 (gI h 414 k4)) 415 k7 (gI h 415 k4)) 416 k7 (gI h 416 k4)) 417 k19 (gI h 417 k16)) (pc' := 115) i167_114 rfl (x_alE (a := 20) (by decide) w20.1 sh417 (by decide) e20 g21 (by decide)) (x_clE e20 g21 (by decide)) (by rw [(show (SH 417).1 = 20 by rw [sh417])]; rfl) ?_
    have w28 : HW (sI (sI (sI (sI (sI (sI h 412 k7 (gI h 412 k4)) 413 k7 (gI h 413 k4)) 414 k7 (gI h 414 k4)) 415 k7 (gI h 415 k4)) 416 k7 (gI h 416 k4)) 417 k19 (gI h 417 k16)) := HW_sI w20
    refine e_ld (pc' := 116) i167_115 rfl rfl ?_
    refine e_get (w := .ref 417) (pc' := 119) i167_116 rfl (x_isC (by decide) w28.1 sh397) (x_fvR (by decide +kernel) (w28.2 397 21 417 lk397_21)) ?_
    refine e_cn (pc' := 120) i167_119 rfl ?_
    refine e_ld (pc' := 122) i167_120 rfl rfl ?_
    refine e_ib (z := 2 * ((144 * l1) + l3)) (pc' := 123) i167_122 rfl rfl ?_
    refine e_cn (pc' := 124) i167_123 rfl ?_
    refine e_ib (z := (2 * ((144 * l1) + l3)) + 1) (pc' := 125) i167_124 rfl rfl ?_
    refine e_ld (pc' := 126) i167_125 rfl rfl ?_
    refine e_get (w := .ref 417) (pc' := 129) i167_126 rfl (x_isC (by decide) w28.1 sh397) (x_fvR (by decide +kernel) (w28.2 397 21 417 lk397_21)) ?_
    refine e_cn (pc' := 130) i167_129 rfl ?_
    refine e_ld (pc' := 132) i167_130 rfl rfl ?_
    refine e_ib (z := 2 * ((144 * l2) + l3)) (pc' := 133) i167_132 rfl rfl ?_
    refine e_cn (pc' := 134) i167_133 rfl ?_
    refine e_ib (z := (2 * ((144 * l2) + l3)) + 1) (pc' := 135) i167_134 rfl rfl ?_
    obtain ⟨k23, e24, g25, H⟩ := H
    refine e_al (n := k23) (w := .int (gI (sI (sI (sI (sI (sI (sI h 412 k7 (gI h 412 k4)) 413 k7 (gI h 413 k4)) 414 k7 (gI h 414 k4)) 415 k7 (gI h 415 k4)) 416 k7 (gI h 416 k4)) 417 k19 (gI h 417 k16)) 417 k23)) (pc' := 136) i167_135 rfl (x_alE (a := 20) (by decide) w28.1 sh417 (by decide) e24 g25 (by decide)) (x_clE e24 g25 (by decide)) rfl ?_
    obtain ⟨k26, e27, g28, H⟩ := H
    refine e_as (n := k26) (h' := sI (sI (sI (sI (sI (sI (sI h 412 k7 (gI h 412 k4)) 413 k7 (gI h 413 k4)) 414 k7 (gI h 414 k4)) 415 k7 (gI h 415 k4)) 416 k7 (gI h 416 k4)) 417 k19 (gI h 417 k16)) 417 k26 (gI (sI (sI (sI (sI (sI (sI h 412 k7 (gI h 412 k4)) 413 k7 (gI h 413 k4)) 414 k7 (gI h 414 k4)) 415 k7 (gI h 415 k4)) 416 k7 (gI h 416 k4)) 417 k19 (gI h 417 k16)) 417 k23)) (pc' := 137) i167_136 rfl (x_alE (a := 20) (by decide) w28.1 sh417 (by decide) e27 g28 (by decide)) (x_clE e27 g28 (by decide)) (by rw [(show (SH 417).1 = 20 by rw [sh417])]; rfl) ?_
    have w36 : HW (sI (sI (sI (sI (sI (sI (sI h 412 k7 (gI h 412 k4)) 413 k7 (gI h 413 k4)) 414 k7 (gI h 414 k4)) 415 k7 (gI h 415 k4)) 416 k7 (gI h 416 k4)) 417 k19 (gI h 417 k16)) 417 k26 (gI (sI (sI (sI (sI (sI (sI h 412 k7 (gI h 412 k4)) 413 k7 (gI h 413 k4)) 414 k7 (gI h 414 k4)) 415 k7 (gI h 415 k4)) 416 k7 (gI h 416 k4)) 417 k19 (gI h 417 k16)) 417 k23)) := HW_sI w28
    refine e_ld (pc' := 138) i167_137 rfl rfl ?_
    refine e_get (w := .ref 418) (pc' := 141) i167_138 rfl (x_isC (by decide) w36.1 sh397) (x_fvR (by decide +kernel) (w36.2 397 22 418 lk397_22)) ?_
    refine e_ld (pc' := 143) i167_141 rfl rfl ?_
    refine e_ld (pc' := 144) i167_143 rfl rfl ?_
    refine e_get (w := .ref 418) (pc' := 147) i167_144 rfl (x_isC (by decide) w36.1 sh397) (x_fvR (by decide +kernel) (w36.2 397 22 418 lk397_22)) ?_
    refine e_ld (pc' := 149) i167_147 rfl rfl ?_
    refine e_al (n := k4) (w := .int (gI h 418 k4)) (pc' := 150) i167_149 rfl (x_alE (a := 20) (by decide) w36.1 sh418 (by decide) e5 g6 (by decide)) (x_clE e5 g6 (by decide)) (congrArg Value.int (Eq.trans (gI_osI (by decide)) (Eq.trans (gI_osI (by decide)) (Eq.trans (gI_osI (by decide)) (Eq.trans (gI_osI (by decide)) (Eq.trans (gI_osI (by decide)) (Eq.trans (gI_osI (by decide)) (gI_osI (by decide))))))))) ?_
    refine e_as (n := k7) (h' := sI (sI (sI (sI (sI (sI (sI (sI h 412 k7 (gI h 412 k4)) 413 k7 (gI h 413 k4)) 414 k7 (gI h 414 k4)) 415 k7 (gI h 415 k4)) 416 k7 (gI h 416 k4)) 417 k19 (gI h 417 k16)) 417 k26 (gI (sI (sI (sI (sI (sI (sI h 412 k7 (gI h 412 k4)) 413 k7 (gI h 413 k4)) 414 k7 (gI h 414 k4)) 415 k7 (gI h 415 k4)) 416 k7 (gI h 416 k4)) 417 k19 (gI h 417 k16)) 417 k23)) 418 k7 (gI h 418 k4)) (pc' := 151) i167_150 rfl (x_alE (a := 20) (by decide) w36.1 sh418 (by decide) e8 g9 (by decide)) (x_clE e8 g9 (by decide)) (by rw [(show (SH 418).1 = 20 by rw [sh418])]; rfl) ?_
    have w38 : HW (sI (sI (sI (sI (sI (sI (sI (sI h 412 k7 (gI h 412 k4)) 413 k7 (gI h 413 k4)) 414 k7 (gI h 414 k4)) 415 k7 (gI h 415 k4)) 416 k7 (gI h 416 k4)) 417 k19 (gI h 417 k16)) 417 k26 (gI (sI (sI (sI (sI (sI (sI h 412 k7 (gI h 412 k4)) 413 k7 (gI h 413 k4)) 414 k7 (gI h 414 k4)) 415 k7 (gI h 415 k4)) 416 k7 (gI h 416 k4)) 417 k19 (gI h 417 k16)) 417 k23)) 418 k7 (gI h 418 k4)) := HW_sI w36
    refine e_ld (pc' := 152) i167_151 rfl rfl ?_
    refine e_get (w := .ref 419) (pc' := 155) i167_152 rfl (x_isC (by decide) w38.1 sh397) (x_fvR (by decide +kernel) (w38.2 397 23 419 lk397_23)) ?_
    refine e_ld (pc' := 157) i167_155 rfl rfl ?_
    refine e_ld (pc' := 158) i167_157 rfl rfl ?_
    refine e_get (w := .ref 419) (pc' := 161) i167_158 rfl (x_isC (by decide) w38.1 sh397) (x_fvR (by decide +kernel) (w38.2 397 23 419 lk397_23)) ?_
    refine e_ld (pc' := 163) i167_161 rfl rfl ?_
    refine e_al (n := k4) (w := .int (gI h 419 k4)) (pc' := 164) i167_163 rfl (x_alE (a := 20) (by decide) w38.1 sh419 (by decide) e5 g6 (by decide)) (x_clE e5 g6 (by decide)) (congrArg Value.int (Eq.trans (gI_osI (by decide)) (Eq.trans (gI_osI (by decide)) (Eq.trans (gI_osI (by decide)) (Eq.trans (gI_osI (by decide)) (Eq.trans (gI_osI (by decide)) (Eq.trans (gI_osI (by decide)) (Eq.trans (gI_osI (by decide)) (gI_osI (by decide)))))))))) ?_
    refine e_as (n := k7) (h' := sI (sI (sI (sI (sI (sI (sI (sI (sI h 412 k7 (gI h 412 k4)) 413 k7 (gI h 413 k4)) 414 k7 (gI h 414 k4)) 415 k7 (gI h 415 k4)) 416 k7 (gI h 416 k4)) 417 k19 (gI h 417 k16)) 417 k26 (gI (sI (sI (sI (sI (sI (sI h 412 k7 (gI h 412 k4)) 413 k7 (gI h 413 k4)) 414 k7 (gI h 414 k4)) 415 k7 (gI h 415 k4)) 416 k7 (gI h 416 k4)) 417 k19 (gI h 417 k16)) 417 k23)) 418 k7 (gI h 418 k4)) 419 k7 (gI h 419 k4)) (pc' := 165) i167_164 rfl (x_alE (a := 20) (by decide) w38.1 sh419 (by decide) e8 g9 (by decide)) (x_clE e8 g9 (by decide)) (by rw [(show (SH 419).1 = 20 by rw [sh419])]; rfl) ?_
    have w40 : HW (sI (sI (sI (sI (sI (sI (sI (sI (sI h 412 k7 (gI h 412 k4)) 413 k7 (gI h 413 k4)) 414 k7 (gI h 414 k4)) 415 k7 (gI h 415 k4)) 416 k7 (gI h 416 k4)) 417 k19 (gI h 417 k16)) 417 k26 (gI (sI (sI (sI (sI (sI (sI h 412 k7 (gI h 412 k4)) 413 k7 (gI h 413 k4)) 414 k7 (gI h 414 k4)) 415 k7 (gI h 415 k4)) 416 k7 (gI h 416 k4)) 417 k19 (gI h 417 k16)) 417 k23)) 418 k7 (gI h 418 k4)) 419 k7 (gI h 419 k4)) := HW_sI w38
    refine e_inc (z := l3 + 1) (ls' := [some (.ref 397), some (.int l1), some (.int l2), some (.int (l3 + 1)), some (.int ((144 * l1) + l3)), some (.int ((144 * l2) + l3))]) (pc' := 168) i167_165 rfl rfl rfl rfl ?_
    refine e_go i167_168 ?_
    exact H
