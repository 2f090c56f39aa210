/-! Conditions of methods (made by wip/whole/vcmake.py). -/
-- FloorTurn$Floor.offerThrough(II)V
set_option maxHeartbeats 8000000 in
set_option maxRecDepth 100000 in
theorem v17 {L : Nat} {xs : Nat → Int32} {Q : Option Value → Hp → Prop} {h : Hp} {f : Nat} {x : Int32} {y : Int32} (hw : HW h) (hf : FL f)
  (H : WP L xs 17 9 [some (.ref f), some (.int x), some (.int y), some (.int (nbr x y)), some (.int 1)] [] h Q) : ∃ r h', Sp L xs 17 [.ref f, .int x, .int y] h r h' ∧ Q r h' := by
  refine sp_ex (ls := [some (.ref f), some (.int x), some (.int y), none, none]) rfl ?_
  refine e_ld (pc' := 1) i17_0 rfl rfl ?_
  refine e_ld (pc' := 2) i17_1 rfl rfl ?_
  refine e_cI (w := .int (nbr x y)) (As := [.int x, .int y]) (rest := []) (pc' := 5) i17_2 rfl rfl rfl rfl rfl m121 ?_
  refine e_st (ls' := [some (.ref f), some (.int x), some (.int y), some (.int (nbr x y)), none]) (pc' := 6) i17_5 rfl rfl rfl ?_
  refine e_cn (pc' := 7) i17_6 rfl ?_
  refine e_st (ls' := [some (.ref f), some (.int x), some (.int y), some (.int (nbr x y)), some (.int 1)]) (pc' := 9) i17_7 rfl rfl rfl ?_
  exact H
set_option maxHeartbeats 8000000 in
set_option maxRecDepth 100000 in
theorem v17_9 {L : Nat} {xs : Nat → Int32} {Q : Option Value → Hp → Prop} {h : Hp} {f : Nat} {l1 : Int32} {l2 : Int32} {l3 : Int32} {l4 : Int32} (hw : HW h) (hf : FL f)
  (H : ((5 < l4) → (Q none h)) ∧ (¬ (5 < l4) → (((l3 = (-1)) → (Q none h)) ∧ (¬ (l3 = (-1)) → (∃ k7 : Nat, l3 = nI k7 ∧ k7 < 144 ∧ (((gI h (f + 6 + k7) 0) = 3) → ((((gI h (f + 6 + k7) 1) = l2) → ((((gI h (f + 6 + k7) 5) = 0) → (∃ (h19 : Hp), Sp L xs 20 [.ref f, .int l1, .int l3, .int l2, .int l4] h none h19 ∧ Q none h19)) ∧ (¬ ((gI h (f + 6 + k7) 5) = 0) → (Q none h)))) ∧ (¬ ((gI h (f + 6 + k7) 1) = l2) → (WP L xs 17 9 [some (.ref f), some (.int l1), some (.int l2), some (.int (nbr l3 l2)), some (.int (l4 + 1))] [] h Q)))) ∧ (¬ ((gI h (f + 6 + k7) 0) = 3) → (WP L xs 17 9 [some (.ref f), some (.int l1), some (.int l2), some (.int (nbr l3 l2)), some (.int (l4 + 1))] [] h Q))))))) : WP L xs 17 9 [some (.ref f), some (.int l1), some (.int l2), some (.int l3), some (.int l4)] [] h Q := by
  refine e_ld (pc' := 11) i17_9 rfl rfl ?_
  refine e_cn (pc' := 12) i17_11 rfl ?_
  refine e_ic (pc' := 15) i17_12 rfl (fun c1 => ?_) (fun c1 => ?_)
  · have d2 : 5 < l4 := (of_decide_eq_true c1)
    replace H := H.1 d2
    refine e_rt i17_80 rfl ?_
    exact H
  · have d3 : ¬ (5 < l4) := (of_decide_eq_false c1)
    replace H := H.2 d3
    refine e_ld (pc' := 16) i17_15 rfl rfl ?_
    refine e_cn (pc' := 17) i17_16 rfl ?_
    refine e_ic (pc' := 20) i17_17 rfl (fun c4 => ?_) (fun c4 => ?_)
    · have d5 : l3 = (-1) := (of_decide_eq_true c4)
      replace H := H.1 d5
      refine e_rt i17_80 rfl ?_
      exact H
    · have d6 : ¬ (l3 = (-1)) := (of_decide_eq_false c4)
      replace H := H.2 d6
      refine e_ld (pc' := 21) i17_20 rfl rfl ?_
      refine e_get (w := .ref (f + 1)) (pc' := 24) i17_21 rfl (x_isF hf hw.1) (x_fvR (by decide +kernel) (hw.2 _ _ _ (FL_lk1 hf))) ?_
      refine e_ld (pc' := 25) i17_24 rfl rfl ?_
      obtain ⟨k7, e8, g9, H⟩ := H
      refine e_al (n := k7) (w := .ref (f + 6 + k7)) (pc' := 26) i17_25 rfl (x_alE (a := 23) (FL_lt1 hf) hw.1 (FL_sh1 hf) (by decide) e8 g9 (by decide)) (x_clE e8 g9 (by decide)) (x_agR (hw.2 _ _ _ (LK_pf hf g9))) ?_
      refine e_get (w := .int (gI h (f + 6 + k7) 0)) (pc' := 29) i17_26 rfl (x_isP (PT_f hf g9) hw.1) rfl ?_
      refine e_cn (pc' := 30) i17_29 rfl ?_
      refine e_ic (pc' := 33) i17_30 rfl (fun c10 => ?_) (fun c10 => ?_)
      · have d11 : ¬ ((gI h (f + 6 + k7) 0) = 3) := (of_decide_eq_true c10)
        replace H := H.2 d11
        refine e_ld (pc' := 69) i17_68 rfl rfl ?_
        refine e_ld (pc' := 70) i17_69 rfl rfl ?_
        refine e_cI (w := .int (nbr l3 l2)) (As := [.int l3, .int l2]) (rest := []) (pc' := 73) i17_70 rfl rfl rfl rfl rfl m121 ?_
        refine e_st (ls' := [some (.ref f), some (.int l1), some (.int l2), some (.int (nbr l3 l2)), some (.int l4)]) (pc' := 74) i17_73 rfl rfl rfl ?_
        refine e_inc (z := l4 + 1) (ls' := [some (.ref f), some (.int l1), some (.int l2), some (.int (nbr l3 l2)), some (.int (l4 + 1))]) (pc' := 77) i17_74 rfl rfl rfl rfl ?_
        refine e_go i17_77 ?_
        exact H
      · have d12 : (gI h (f + 6 + k7) 0) = 3 := (Decidable.not_not.mp (of_decide_eq_false c10))
        replace H := H.1 d12
        refine e_ld (pc' := 34) i17_33 rfl rfl ?_
        refine e_get (w := .ref (f + 1)) (pc' := 37) i17_34 rfl (x_isF hf hw.1) (x_fvR (by decide +kernel) (hw.2 _ _ _ (FL_lk1 hf))) ?_
        refine e_ld (pc' := 38) i17_37 rfl rfl ?_
        refine e_al (n := k7) (w := .ref (f + 6 + k7)) (pc' := 39) i17_38 rfl (x_alE (a := 23) (FL_lt1 hf) hw.1 (FL_sh1 hf) (by decide) e8 g9 (by decide)) (x_clE e8 g9 (by decide)) (x_agR (hw.2 _ _ _ (LK_pf hf g9))) ?_
        refine e_get (w := .int (gI h (f + 6 + k7) 1)) (pc' := 42) i17_39 rfl (x_isP (PT_f hf g9) hw.1) rfl ?_
        refine e_ld (pc' := 43) i17_42 rfl rfl ?_
        refine e_ic (pc' := 46) i17_43 rfl (fun c13 => ?_) (fun c13 => ?_)
        · have d14 : ¬ ((gI h (f + 6 + k7) 1) = l2) := (of_decide_eq_true c13)
          replace H := H.2 d14
          refine e_ld (pc' := 69) i17_68 rfl rfl ?_
          refine e_ld (pc' := 70) i17_69 rfl rfl ?_
          refine e_cI (w := .int (nbr l3 l2)) (As := [.int l3, .int l2]) (rest := []) (pc' := 73) i17_70 rfl rfl rfl rfl rfl m121 ?_
          refine e_st (ls' := [some (.ref f), some (.int l1), some (.int l2), some (.int (nbr l3 l2)), some (.int l4)]) (pc' := 74) i17_73 rfl rfl rfl ?_
          refine e_inc (z := l4 + 1) (ls' := [some (.ref f), some (.int l1), some (.int l2), some (.int (nbr l3 l2)), some (.int (l4 + 1))]) (pc' := 77) i17_74 rfl rfl rfl rfl ?_
          refine e_go i17_77 ?_
          exact H
        · have d15 : (gI h (f + 6 + k7) 1) = l2 := (Decidable.not_not.mp (of_decide_eq_false c13))
          replace H := H.1 d15
          refine e_ld (pc' := 47) i17_46 rfl rfl ?_
          refine e_get (w := .ref (f + 1)) (pc' := 50) i17_47 rfl (x_isF hf hw.1) (x_fvR (by decide +kernel) (hw.2 _ _ _ (FL_lk1 hf))) ?_
          refine e_ld (pc' := 51) i17_50 rfl rfl ?_
          refine e_al (n := k7) (w := .ref (f + 6 + k7)) (pc' := 52) i17_51 rfl (x_alE (a := 23) (FL_lt1 hf) hw.1 (FL_sh1 hf) (by decide) e8 g9 (by decide)) (x_clE e8 g9 (by decide)) (x_agR (hw.2 _ _ _ (LK_pf hf g9))) ?_
          refine e_get (w := .int (gI h (f + 6 + k7) 5)) (pc' := 55) i17_52 rfl (x_isP (PT_f hf g9) hw.1) rfl ?_
          refine e_if (pc' := 58) i17_55 rfl (fun c16 => ?_) (fun c16 => ?_)
          · have d17 : ¬ ((gI h (f + 6 + k7) 5) = 0) := (of_decide_eq_true c16)
            replace H := H.2 d17
            refine e_rt i17_67 rfl ?_
            exact H
          · have d18 : (gI h (f + 6 + k7) 5) = 0 := (Decidable.not_not.mp (of_decide_eq_false c16))
            replace H := H.1 d18
            refine e_ld (pc' := 59) i17_58 rfl rfl ?_
            refine e_ld (pc' := 60) i17_59 rfl rfl ?_
            refine e_ld (pc' := 61) i17_60 rfl rfl ?_
            refine e_ld (pc' := 62) i17_61 rfl rfl ?_
            refine e_ld (pc' := 64) i17_62 rfl rfl ?_
            obtain ⟨h19, s20, H⟩ := H
            have w22q := HW_sp (show x_okm 20 = true by rfl) s20 hw
            have w22 : HW h19 := w22q.1
            refine e_cV (As := [.ref f, .int l1, .int l3, .int l2, .int l4]) (rest := []) (pc' := 67) i17_64 rfl rfl rfl rfl (by show (Nat.beq (x_kd 20) 0 && x_is f _ (MC 20) 0) = true; rw [show x_kd 20 = 0 by decide +kernel, show MC 20 = 2 by decide +kernel, (x_isF hf hw.1)]; rfl) s20 ?_
            refine e_rt i17_67 rfl ?_
            exact H
-- FloorTurn$Floor.offerRound(ILFloorTurn$Part;)V
set_option maxHeartbeats 8000000 in
set_option maxRecDepth 100000 in
theorem v18 {L : Nat} {xs : Nat → Int32} {Q : Option Value → Hp → Prop} {h : Hp} {f : Nat} {x : Int32} {o : Nat} (hw : HW h) (hf : FL f) (ho : PT o)
  (H : WP L xs 18 2 [some (.ref f), some (.int x), some (.ref o), some (.int 1), none] [] h Q) : ∃ r h', Sp L xs 18 [.ref f, .int x, .ref o] h r h' ∧ Q r h' := by
  refine sp_ex (ls := [some (.ref f), some (.int x), some (.ref o), none, none]) rfl ?_
  refine e_cn (pc' := 1) i18_0 rfl ?_
  refine e_st (ls' := [some (.ref f), some (.int x), some (.ref o), some (.int 1), none]) (pc' := 2) i18_1 rfl rfl rfl ?_
  exact H
set_option maxHeartbeats 8000000 in
set_option maxRecDepth 100000 in
theorem v18_2 {L : Nat} {xs : Nat → Int32} {Q : Option Value → Hp → Prop} {h : Hp} {f : Nat} {o : Nat} {l1 : Int32} {l3 : Int32} {z4 : Option Value} (hw : HW h) (hf : FL f) (ho : PT o)
  (H : ((4 < l3) → (Q none h)) ∧ (¬ (4 < l3) → (∃ (r5 : Int32), Sp L xs 29 [.ref o, .int (((gI h o 13) + l3) &&& 3)] h (some (.int r5)) h ∧ ((r5 = 0) → (WP L xs 18 2 [some (.ref f), some (.int l1), some (.ref o), some (.int (l3 + 1)), some (.int (((gI h o 13) + l3) &&& 3))] [] h Q)) ∧ (¬ (r5 = 0) → (∃ (r11 : Int32) (h9 : Hp), Sp L xs 19 [.ref f, .int l1, .int (((gI h o 13) + l3) &&& 3), .int (gI h o 5)] h (some (.int r11)) h9 ∧ ((r11 = 0) → (WP L xs 18 2 [some (.ref f), some (.int l1), some (.ref o), some (.int (l3 + 1)), some (.int (((gI h o 13) + l3) &&& 3))] [] h9 Q)) ∧ (¬ (r11 = 0) → (Q none h9))))))) : WP L xs 18 2 [some (.ref f), some (.int l1), some (.ref o), some (.int l3), z4] [] h Q := by
  refine e_ld (pc' := 3) i18_2 rfl rfl ?_
  refine e_cn (pc' := 4) i18_3 rfl ?_
  refine e_ic (pc' := 7) i18_4 rfl (fun c1 => ?_) (fun c1 => ?_)
  · have d2 : 4 < l3 := (of_decide_eq_true c1)
    replace H := H.1 d2
    refine e_rt i18_47 rfl ?_
    exact H
  · have d3 : ¬ (4 < l3) := (of_decide_eq_false c1)
    replace H := H.2 d3
    refine e_ld (pc' := 8) i18_7 rfl rfl ?_
    refine e_get (w := .int (gI h o 13)) (pc' := 11) i18_8 rfl (x_isP ho hw.1) rfl ?_
    refine e_ld (pc' := 12) i18_11 rfl rfl ?_
    refine e_ib (z := (gI h o 13) + l3) (pc' := 13) i18_12 rfl rfl ?_
    refine e_cn (pc' := 14) i18_13 rfl ?_
    refine e_ib (z := ((gI h o 13) + l3) &&& 3) (pc' := 15) i18_14 rfl rfl ?_
    refine e_st (ls' := [some (.ref f), some (.int l1), some (.ref o), some (.int l3), some (.int (((gI h o 13) + l3) &&& 3))]) (pc' := 17) i18_15 rfl rfl rfl ?_
    refine e_ld (pc' := 18) i18_17 rfl rfl ?_
    refine e_ld (pc' := 20) i18_18 rfl rfl ?_
    obtain ⟨r5, s4, H⟩ := H
    refine e_cI (w := .int r5) (As := [.ref o, .int (((gI h o 13) + l3) &&& 3)]) (rest := []) (pc' := 23) i18_20 rfl rfl rfl rfl (by show (Nat.beq (x_kd 29) 0 && x_is o _ (MC 29) 0) = true; rw [show x_kd 29 = 0 by decide +kernel, show MC 29 = 3 by decide +kernel, (x_isP ho hw.1)]; rfl) s4 ?_
    refine e_if (pc' := 26) i18_23 rfl (fun c6 => ?_) (fun c6 => ?_)
    · have d7 : r5 = 0 := (of_decide_eq_true c6)
      replace H := H.1 d7
      refine e_inc (z := l3 + 1) (ls' := [some (.ref f), some (.int l1), some (.ref o), some (.int (l3 + 1)), some (.int (((gI h o 13) + l3) &&& 3))]) (pc' := 44) i18_41 rfl rfl rfl rfl ?_
      refine e_go i18_44 ?_
      exact H
    · have d8 : ¬ (r5 = 0) := (of_decide_eq_false c6)
      replace H := H.2 d8
      refine e_ld (pc' := 27) i18_26 rfl rfl ?_
      refine e_ld (pc' := 28) i18_27 rfl rfl ?_
      refine e_ld (pc' := 30) i18_28 rfl rfl ?_
      refine e_ld (pc' := 31) i18_30 rfl rfl ?_
      refine e_get (w := .int (gI h o 5)) (pc' := 34) i18_31 rfl (x_isP ho hw.1) rfl ?_
      obtain ⟨r11, h9, s10, H⟩ := H
      have w13q := HW_sp (show x_okm 19 = true by rfl) s10 hw
      have w13 : HW h9 := w13q.1
      refine e_cI (w := .int r11) (As := [.ref f, .int l1, .int (((gI h o 13) + l3) &&& 3), .int (gI h o 5)]) (rest := []) (pc' := 37) i18_34 rfl rfl rfl rfl (by show (Nat.beq (x_kd 19) 0 && x_is f _ (MC 19) 0) = true; rw [show x_kd 19 = 0 by decide +kernel, show MC 19 = 2 by decide +kernel, (x_isF hf hw.1)]; rfl) s10 ?_
      refine e_if (pc' := 40) i18_37 rfl (fun c13 => ?_) (fun c13 => ?_)
      · have d14 : r11 = 0 := (of_decide_eq_true c13)
        replace H := H.1 d14
        refine e_inc (z := l3 + 1) (ls' := [some (.ref f), some (.int l1), some (.ref o), some (.int (l3 + 1)), some (.int (((gI h o 13) + l3) &&& 3))]) (pc' := 44) i18_41 rfl rfl rfl rfl ?_
        refine e_go i18_44 ?_
        exact H
      · have d15 : ¬ (r11 = 0) := (of_decide_eq_false c13)
        replace H := H.2 d15
        refine e_rt i18_40 rfl ?_
        exact H
-- FloorTurn$Floor.offerOver(III)Z
set_option maxHeartbeats 8000000 in
set_option maxRecDepth 100000 in
theorem v19 {L : Nat} {xs : Nat → Int32} {Q : Option Value → Hp → Prop} {h : Hp} {f : Nat} {x : Int32} {y : Int32} {z : Int32} (hw : HW h) (hf : FL f)
  (H : (((nbr x y) = (-1)) → (Q (some (.int 0)) h)) ∧ (¬ ((nbr x y) = (-1)) → (∃ k4 : Nat, (nbr x y) = nI k4 ∧ k4 < 144 ∧ ∃ (r8 : Int32), Sp L xs 35 [.ref (f + 6 + k4), .int z, .int (opp y)] h (some (.int r8)) h ∧ ((r8 = 0) → (Q (some (.int 0)) h)) ∧ (¬ (r8 = 0) → (∃ (h11 : Hp), Sp L xs 20 [.ref f, .int x, .int (nbr x y), .int y, .int 1] h none h11 ∧ Q (some (.int 1)) h11))))) : ∃ r h', Sp L xs 19 [.ref f, .int x, .int y, .int z] h r h' ∧ Q r h' := by
  refine sp_ex (ls := [some (.ref f), some (.int x), some (.int y), some (.int z), none]) rfl ?_
  refine e_ld (pc' := 1) i19_0 rfl rfl ?_
  refine e_ld (pc' := 2) i19_1 rfl rfl ?_
  refine e_cI (w := .int (nbr x y)) (As := [.int x, .int y]) (rest := []) (pc' := 5) i19_2 rfl rfl rfl rfl rfl m121 ?_
  refine e_st (ls' := [some (.ref f), some (.int x), some (.int y), some (.int z), some (.int (nbr x y))]) (pc' := 7) i19_5 rfl rfl rfl ?_
  refine e_ld (pc' := 9) i19_7 rfl rfl ?_
  refine e_cn (pc' := 10) i19_9 rfl ?_
  refine e_ic (pc' := 13) i19_10 rfl (fun c1 => ?_) (fun c1 => ?_)
  · have d2 : (nbr x y) = (-1) := (of_decide_eq_true c1)
    replace H := H.1 d2
    refine e_cn (pc' := 32) i19_31 rfl ?_
    refine e_rt i19_32 rfl ?_
    exact H
  · have d3 : ¬ ((nbr x y) = (-1)) := (of_decide_eq_false c1)
    replace H := H.2 d3
    refine e_ld (pc' := 14) i19_13 rfl rfl ?_
    refine e_get (w := .ref (f + 1)) (pc' := 17) i19_14 rfl (x_isF hf hw.1) (x_fvR (by decide +kernel) (hw.2 _ _ _ (FL_lk1 hf))) ?_
    refine e_ld (pc' := 19) i19_17 rfl rfl ?_
    obtain ⟨k4, e5, g6, H⟩ := H
    refine e_al (n := k4) (w := .ref (f + 6 + k4)) (pc' := 20) i19_19 rfl (x_alE (a := 23) (FL_lt1 hf) hw.1 (FL_sh1 hf) (by decide) e5 g6 (by decide)) (x_clE e5 g6 (by decide)) (x_agR (hw.2 _ _ _ (LK_pf hf g6))) ?_
    refine e_ld (pc' := 21) i19_20 rfl rfl ?_
    refine e_ld (pc' := 22) i19_21 rfl rfl ?_
    refine e_cI (w := .int (opp y)) (As := [.int y]) (rest := [.int z, .ref (f + 6 + k4)]) (pc' := 25) i19_22 rfl rfl rfl rfl rfl m120 ?_
    obtain ⟨r8, s7, H⟩ := H
    refine e_cI (w := .int r8) (As := [.ref (f + 6 + k4), .int z, .int (opp y)]) (rest := []) (pc' := 28) i19_25 rfl rfl rfl rfl (by show (Nat.beq (x_kd 35) 0 && x_is (f + 6 + k4) _ (MC 35) 0) = true; rw [show x_kd 35 = 0 by decide +kernel, show MC 35 = 3 by decide +kernel, (x_isP (PT_f hf g6) hw.1)]; rfl) s7 ?_
    refine e_if (pc' := 31) i19_28 rfl (fun c9 => ?_) (fun c9 => ?_)
    · have d10 : ¬ (r8 = 0) := (of_decide_eq_true c9)
      replace H := H.2 d10
      refine e_ld (pc' := 34) i19_33 rfl rfl ?_
      refine e_ld (pc' := 35) i19_34 rfl rfl ?_
      refine e_ld (pc' := 37) i19_35 rfl rfl ?_
      refine e_ld (pc' := 38) i19_37 rfl rfl ?_
      refine e_cn (pc' := 39) i19_38 rfl ?_
      obtain ⟨h11, s12, H⟩ := H
      have w14q := HW_sp (show x_okm 20 = true by rfl) s12 hw
      have w14 : HW h11 := w14q.1
      refine e_cV (As := [.ref f, .int x, .int (nbr x y), .int y, .int 1]) (rest := []) (pc' := 42) i19_39 rfl rfl rfl rfl (by show (Nat.beq (x_kd 20) 0 && x_is f _ (MC 20) 0) = true; rw [show x_kd 20 = 0 by decide +kernel, show MC 20 = 2 by decide +kernel, (x_isF hf hw.1)]; rfl) s12 ?_
      refine e_cn (pc' := 43) i19_42 rfl ?_
      refine e_rt i19_43 rfl ?_
      exact H
    · have d14 : r8 = 0 := (Decidable.not_not.mp (of_decide_eq_false c9))
      replace H := H.1 d14
      refine e_cn (pc' := 32) i19_31 rfl ?_
      refine e_rt i19_32 rfl ?_
      exact H
-- FloorTurn$Floor.bid(IIII)V
set_option maxHeartbeats 8000000 in
set_option maxRecDepth 100000 in
theorem v20 {L : Nat} {xs : Nat → Int32} {Q : Option Value → Hp → Prop} {h : Hp} {f : Nat} {x : Int32} {y : Int32} {z : Int32} {u : Int32} (hw : HW h) (hf : FL f)
  (H : ∃ k1 : Nat, y = nI k1 ∧ k1 < 144 ∧ (((gI h (f + 3) k1) = (-1)) → (Q none (sI (sI (sI h (f + 3) k1 x) (f + 4) k1 (opp z)) (f + 5) k1 ((8 * ((((opp z) - (gI h (f + 6 + k1) 12)) - 1) &&& 3)) + u)))) ∧ (¬ ((gI h (f + 3) k1) = (-1)) → ((((gI h (f + 5) k1) ≤ ((8 * ((((opp z) - (gI h (f + 6 + k1) 12)) - 1) &&& 3)) + u)) → (Q none h)) ∧ (¬ ((gI h (f + 5) k1) ≤ ((8 * ((((opp z) - (gI h (f + 6 + k1) 12)) - 1) &&& 3)) + u)) → (Q none (sI (sI (sI h (f + 3) k1 x) (f + 4) k1 (opp z)) (f + 5) k1 ((8 * ((((opp z) - (gI h (f + 6 + k1) 12)) - 1) &&& 3)) + u))))))) : ∃ r h', Sp L xs 20 [.ref f, .int x, .int y, .int z, .int u] h r h' ∧ Q r h' := by
  refine sp_ex (ls := [some (.ref f), some (.int x), some (.int y), some (.int z), some (.int u), none, none]) rfl ?_
  refine e_ld (pc' := 1) i20_0 rfl rfl ?_
  refine e_cI (w := .int (opp z)) (As := [.int z]) (rest := []) (pc' := 4) i20_1 rfl rfl rfl rfl rfl m120 ?_
  refine e_st (ls' := [some (.ref f), some (.int x), some (.int y), some (.int z), some (.int u), some (.int (opp z)), none]) (pc' := 6) i20_4 rfl rfl rfl ?_
  refine e_cn (pc' := 8) i20_6 rfl ?_
  refine e_ld (pc' := 10) i20_8 rfl rfl ?_
  refine e_ld (pc' := 11) i20_10 rfl rfl ?_
  refine e_get (w := .ref (f + 1)) (pc' := 14) i20_11 rfl (x_isF hf hw.1) (x_fvR (by decide +kernel) (hw.2 _ _ _ (FL_lk1 hf))) ?_
  refine e_ld (pc' := 15) i20_14 rfl rfl ?_
  obtain ⟨k1, e2, g3, H⟩ := H
  refine e_al (n := k1) (w := .ref (f + 6 + k1)) (pc' := 16) i20_15 rfl (x_alE (a := 23) (FL_lt1 hf) hw.1 (FL_sh1 hf) (by decide) e2 g3 (by decide)) (x_clE e2 g3 (by decide)) (x_agR (hw.2 _ _ _ (LK_pf hf g3))) ?_
  refine e_get (w := .int (gI h (f + 6 + k1) 12)) (pc' := 19) i20_16 rfl (x_isP (PT_f hf g3) hw.1) rfl ?_
  refine e_ib (z := (opp z) - (gI h (f + 6 + k1) 12)) (pc' := 20) i20_19 rfl rfl ?_
  refine e_cn (pc' := 21) i20_20 rfl ?_
  refine e_ib (z := ((opp z) - (gI h (f + 6 + k1) 12)) - 1) (pc' := 22) i20_21 rfl rfl ?_
  refine e_cn (pc' := 23) i20_22 rfl ?_
  refine e_ib (z := (((opp z) - (gI h (f + 6 + k1) 12)) - 1) &&& 3) (pc' := 24) i20_23 rfl rfl ?_
  refine e_ib (z := 8 * ((((opp z) - (gI h (f + 6 + k1) 12)) - 1) &&& 3)) (pc' := 25) i20_24 rfl rfl ?_
  refine e_ld (pc' := 27) i20_25 rfl rfl ?_
  refine e_ib (z := (8 * ((((opp z) - (gI h (f + 6 + k1) 12)) - 1) &&& 3)) + u) (pc' := 28) i20_27 rfl rfl ?_
  refine e_st (ls' := [some (.ref f), some (.int x), some (.int y), some (.int z), some (.int u), some (.int (opp z)), some (.int ((8 * ((((opp z) - (gI h (f + 6 + k1) 12)) - 1) &&& 3)) + u))]) (pc' := 30) i20_28 rfl rfl rfl ?_
  refine e_ld (pc' := 31) i20_30 rfl rfl ?_
  refine e_get (w := .ref (f + 3)) (pc' := 34) i20_31 rfl (x_isF hf hw.1) (x_fvR (by decide +kernel) (hw.2 _ _ _ (FL_lk4 hf))) ?_
  refine e_ld (pc' := 35) i20_34 rfl rfl ?_
  refine e_al (n := k1) (w := .int (gI h (f + 3) k1)) (pc' := 36) i20_35 rfl (x_alE (a := 20) (FL_lt3 hf) hw.1 (FL_sh3 hf) (by decide) e2 g3 (by decide)) (x_clE e2 g3 (by decide)) rfl ?_
  refine e_cn (pc' := 37) i20_36 rfl ?_
  refine e_ic (pc' := 40) i20_37 rfl (fun c4 => ?_) (fun c4 => ?_)
  · have d5 : (gI h (f + 3) k1) = (-1) := (of_decide_eq_true c4)
    replace H := H.1 d5
    refine e_ld (pc' := 52) i20_51 rfl rfl ?_
    refine e_get (w := .ref (f + 3)) (pc' := 55) i20_52 rfl (x_isF hf hw.1) (x_fvR (by decide +kernel) (hw.2 _ _ _ (FL_lk4 hf))) ?_
    refine e_ld (pc' := 56) i20_55 rfl rfl ?_
    refine e_ld (pc' := 57) i20_56 rfl rfl ?_
    refine e_as (n := k1) (h' := sI h (f + 3) k1 x) (pc' := 58) i20_57 rfl (x_alE (a := 20) (FL_lt3 hf) hw.1 (FL_sh3 hf) (by decide) e2 g3 (by decide)) (x_clE e2 g3 (by decide)) (by rw [(show (SH (f + 3)).1 = 20 by rw [FL_sh3 hf])]; rfl) ?_
    have w7 : HW (sI h (f + 3) k1 x) := HW_sI hw
    refine e_ld (pc' := 59) i20_58 rfl rfl ?_
    refine e_get (w := .ref (f + 4)) (pc' := 62) i20_59 rfl (x_isF hf w7.1) (x_fvR (by decide +kernel) (w7.2 _ _ _ (FL_lk5 hf))) ?_
    refine e_ld (pc' := 63) i20_62 rfl rfl ?_
    refine e_ld (pc' := 65) i20_63 rfl rfl ?_
    refine e_as (n := k1) (h' := sI (sI h (f + 3) k1 x) (f + 4) k1 (opp z)) (pc' := 66) i20_65 rfl (x_alE (a := 20) (FL_lt4 hf) w7.1 (FL_sh4 hf) (by decide) e2 g3 (by decide)) (x_clE e2 g3 (by decide)) (by rw [(show (SH (f + 4)).1 = 20 by rw [FL_sh4 hf])]; rfl) ?_
    have w9 : HW (sI (sI h (f + 3) k1 x) (f + 4) k1 (opp z)) := HW_sI w7
    refine e_ld (pc' := 67) i20_66 rfl rfl ?_
    refine e_get (w := .ref (f + 5)) (pc' := 70) i20_67 rfl (x_isF hf w9.1) (x_fvR (by decide +kernel) (w9.2 _ _ _ (FL_lk6 hf))) ?_
    refine e_ld (pc' := 71) i20_70 rfl rfl ?_
    refine e_ld (pc' := 73) i20_71 rfl rfl ?_
    refine e_as (n := k1) (h' := sI (sI (sI h (f + 3) k1 x) (f + 4) k1 (opp z)) (f + 5) k1 ((8 * ((((opp z) - (gI h (f + 6 + k1) 12)) - 1) &&& 3)) + u)) (pc' := 74) i20_73 rfl (x_alE (a := 20) (FL_lt5 hf) w9.1 (FL_sh5 hf) (by decide) e2 g3 (by decide)) (x_clE e2 g3 (by decide)) (by rw [(show (SH (f + 5)).1 = 20 by rw [FL_sh5 hf])]; rfl) ?_
    have w11 : HW (sI (sI (sI h (f + 3) k1 x) (f + 4) k1 (opp z)) (f + 5) k1 ((8 * ((((opp z) - (gI h (f + 6 + k1) 12)) - 1) &&& 3)) + u)) := HW_sI w9
    refine e_rt i20_74 rfl ?_
    exact H
  · have d9 : ¬ ((gI h (f + 3) k1) = (-1)) := (of_decide_eq_false c4)
    replace H := H.2 d9
    refine e_ld (pc' := 42) i20_40 rfl rfl ?_
    refine e_ld (pc' := 43) i20_42 rfl rfl ?_
    refine e_get (w := .ref (f + 5)) (pc' := 46) i20_43 rfl (x_isF hf hw.1) (x_fvR (by decide +kernel) (hw.2 _ _ _ (FL_lk6 hf))) ?_
    refine e_ld (pc' := 47) i20_46 rfl rfl ?_
    refine e_al (n := k1) (w := .int (gI h (f + 5) k1)) (pc' := 48) i20_47 rfl (x_alE (a := 20) (FL_lt5 hf) hw.1 (FL_sh5 hf) (by decide) e2 g3 (by decide)) (x_clE e2 g3 (by decide)) rfl ?_
    refine e_ic (pc' := 51) i20_48 rfl (fun c10 => ?_) (fun c10 => ?_)
    · have d11 : (gI h (f + 5) k1) ≤ ((8 * ((((opp z) - (gI h (f + 6 + k1) 12)) - 1) &&& 3)) + u) := (of_decide_eq_true c10)
      replace H := H.1 d11
      refine e_rt i20_74 rfl ?_
      exact H
    · have d12 : ¬ ((gI h (f + 5) k1) ≤ ((8 * ((((opp z) - (gI h (f + 6 + k1) 12)) - 1) &&& 3)) + u)) := (of_decide_eq_false c10)
      replace H := H.2 d12
      refine e_ld (pc' := 52) i20_51 rfl rfl ?_
      refine e_get (w := .ref (f + 3)) (pc' := 55) i20_52 rfl (x_isF hf hw.1) (x_fvR (by decide +kernel) (hw.2 _ _ _ (FL_lk4 hf))) ?_
      refine e_ld (pc' := 56) i20_55 rfl rfl ?_
      refine e_ld (pc' := 57) i20_56 rfl rfl ?_
      refine e_as (n := k1) (h' := sI h (f + 3) k1 x) (pc' := 58) i20_57 rfl (x_alE (a := 20) (FL_lt3 hf) hw.1 (FL_sh3 hf) (by decide) e2 g3 (by decide)) (x_clE e2 g3 (by decide)) (by rw [(show (SH (f + 3)).1 = 20 by rw [FL_sh3 hf])]; rfl) ?_
      have w14 : HW (sI h (f + 3) k1 x) := HW_sI hw
      refine e_ld (pc' := 59) i20_58 rfl rfl ?_
      refine e_get (w := .ref (f + 4)) (pc' := 62) i20_59 rfl (x_isF hf w14.1) (x_fvR (by decide +kernel) (w14.2 _ _ _ (FL_lk5 hf))) ?_
      refine e_ld (pc' := 63) i20_62 rfl rfl ?_
      refine e_ld (pc' := 65) i20_63 rfl rfl ?_
      refine e_as (n := k1) (h' := sI (sI h (f + 3) k1 x) (f + 4) k1 (opp z)) (pc' := 66) i20_65 rfl (x_alE (a := 20) (FL_lt4 hf) w14.1 (FL_sh4 hf) (by decide) e2 g3 (by decide)) (x_clE e2 g3 (by decide)) (by rw [(show (SH (f + 4)).1 = 20 by rw [FL_sh4 hf])]; rfl) ?_
      have w16 : HW (sI (sI h (f + 3) k1 x) (f + 4) k1 (opp z)) := HW_sI w14
      refine e_ld (pc' := 67) i20_66 rfl rfl ?_
      refine e_get (w := .ref (f + 5)) (pc' := 70) i20_67 rfl (x_isF hf w16.1) (x_fvR (by decide +kernel) (w16.2 _ _ _ (FL_lk6 hf))) ?_
      refine e_ld (pc' := 71) i20_70 rfl rfl ?_
      refine e_ld (pc' := 73) i20_71 rfl rfl ?_
      refine e_as (n := k1) (h' := sI (sI (sI h (f + 3) k1 x) (f + 4) k1 (opp z)) (f + 5) k1 ((8 * ((((opp z) - (gI h (f + 6 + k1) 12)) - 1) &&& 3)) + u)) (pc' := 74) i20_73 rfl (x_alE (a := 20) (FL_lt5 hf) w16.1 (FL_sh5 hf) (by decide) e2 g3 (by decide)) (x_clE e2 g3 (by decide)) (by rw [(show (SH (f + 5)).1 = 20 by rw [FL_sh5 hf])]; rfl) ?_
      have w18 : HW (sI (sI (sI h (f + 3) k1 x) (f + 4) k1 (opp z)) (f + 5) k1 ((8 * ((((opp z) - (gI h (f + 6 + k1) 12)) - 1) &&& 3)) + u)) := HW_sI w16
      refine e_rt i20_74 rfl ?_
      exact H
-- FloorTurn$Floor.moveTo(I)I
set_option maxHeartbeats 8000000 in
set_option maxRecDepth 100000 in
theorem v21 {L : Nat} {xs : Nat → Int32} {Q : Option Value → Hp → Prop} {h : Hp} {f : Nat} {x : Int32} (hw : HW h) (hf : FL f)
  (H : ∃ k1 : Nat, x = nI k1 ∧ k1 < 144 ∧ ∃ k4 : Nat, (gI h (f + 3) k1) = nI k4 ∧ k4 < 144 ∧ ∃ (r8 : Int32), Sp L xs 34 [.ref (f + 6 + k4)] h (some (.int r8)) h ∧ ∃ (h9 : Hp), Sp L xs 37 [.ref (f + 6 + k4), .int (opp (gI h (f + 4) k1))] h none h9 ∧ ∃ (h12 : Hp), Sp L xs 38 [.ref (f + 6 + k1), .int r8, .int (gI h9 (f + 4) k1)] h9 none h12 ∧ (((gI h12 (f + 6 + k1) 0) = 7) → (∃ k17 : Nat, r8 = nI k17 ∧ k17 < 21 ∧ Q (some (.int 1)) (sI h12 (f + 2) k17 ((gI h12 (f + 2) k17) + 1)))) ∧ (¬ ((gI h12 (f + 6 + k1) 0) = 7) → (Q (some (.int 0)) h12))) : ∃ r h', Sp L xs 21 [.ref f, .int x] h r h' ∧ Q r h' := by
  refine sp_ex (ls := [some (.ref f), some (.int x), none, none]) rfl ?_
  refine e_ld (pc' := 1) i21_0 rfl rfl ?_
  refine e_get (w := .ref (f + 1)) (pc' := 4) i21_1 rfl (x_isF hf hw.1) (x_fvR (by decide +kernel) (hw.2 _ _ _ (FL_lk1 hf))) ?_
  refine e_ld (pc' := 5) i21_4 rfl rfl ?_
  refine e_get (w := .ref (f + 3)) (pc' := 8) i21_5 rfl (x_isF hf hw.1) (x_fvR (by decide +kernel) (hw.2 _ _ _ (FL_lk4 hf))) ?_
  refine e_ld (pc' := 9) i21_8 rfl rfl ?_
  obtain ⟨k1, e2, g3, H⟩ := H
  refine e_al (n := k1) (w := .int (gI h (f + 3) k1)) (pc' := 10) i21_9 rfl (x_alE (a := 20) (FL_lt3 hf) hw.1 (FL_sh3 hf) (by decide) e2 g3 (by decide)) (x_clE e2 g3 (by decide)) rfl ?_
  obtain ⟨k4, e5, g6, H⟩ := H
  refine e_al (n := k4) (w := .ref (f + 6 + k4)) (pc' := 11) i21_10 rfl (x_alE (a := 23) (FL_lt1 hf) hw.1 (FL_sh1 hf) (by decide) e5 g6 (by decide)) (x_clE e5 g6 (by decide)) (x_agR (hw.2 _ _ _ (LK_pf hf g6))) ?_
  refine e_st (ls' := [some (.ref f), some (.int x), some (.ref (f + 6 + k4)), none]) (pc' := 12) i21_11 rfl rfl rfl ?_
  refine e_ld (pc' := 13) i21_12 rfl rfl ?_
  obtain ⟨r8, s7, H⟩ := H
  refine e_cI (w := .int r8) (As := [.ref (f + 6 + k4)]) (rest := []) (pc' := 16) i21_13 rfl rfl rfl rfl (by show (Nat.beq (x_kd 34) 0 && x_is (f + 6 + k4) _ (MC 34) 0) = true; rw [show x_kd 34 = 0 by decide +kernel, show MC 34 = 3 by decide +kernel, (x_isP (PT_f hf g6) hw.1)]; rfl) s7 ?_
  refine e_st (ls' := [some (.ref f), some (.int x), some (.ref (f + 6 + k4)), some (.int r8)]) (pc' := 17) i21_16 rfl rfl rfl ?_
  refine e_ld (pc' := 18) i21_17 rfl rfl ?_
  refine e_ld (pc' := 19) i21_18 rfl rfl ?_
  refine e_get (w := .ref (f + 4)) (pc' := 22) i21_19 rfl (x_isF hf hw.1) (x_fvR (by decide +kernel) (hw.2 _ _ _ (FL_lk5 hf))) ?_
  refine e_ld (pc' := 23) i21_22 rfl rfl ?_
  refine e_al (n := k1) (w := .int (gI h (f + 4) k1)) (pc' := 24) i21_23 rfl (x_alE (a := 20) (FL_lt4 hf) hw.1 (FL_sh4 hf) (by decide) e2 g3 (by decide)) (x_clE e2 g3 (by decide)) rfl ?_
  refine e_cI (w := .int (opp (gI h (f + 4) k1))) (As := [.int (gI h (f + 4) k1)]) (rest := [.ref (f + 6 + k4)]) (pc' := 27) i21_24 rfl rfl rfl rfl rfl m120 ?_
  obtain ⟨h9, s10, H⟩ := H
  have w12q := HW_sp (show x_okm 37 = true by rfl) s10 hw
  have w12 : HW h9 := w12q.1
  refine e_cV (As := [.ref (f + 6 + k4), .int (opp (gI h (f + 4) k1))]) (rest := []) (pc' := 30) i21_27 rfl rfl rfl rfl (by show (Nat.beq (x_kd 37) 0 && x_is (f + 6 + k4) _ (MC 37) 0) = true; rw [show x_kd 37 = 0 by decide +kernel, show MC 37 = 3 by decide +kernel, (x_isP (PT_f hf g6) hw.1)]; rfl) s10 ?_
  refine e_ld (pc' := 31) i21_30 rfl rfl ?_
  refine e_get (w := .ref (f + 1)) (pc' := 34) i21_31 rfl (x_isF hf w12.1) (x_fvR (by decide +kernel) (w12.2 _ _ _ (FL_lk1 hf))) ?_
  refine e_ld (pc' := 35) i21_34 rfl rfl ?_
  refine e_al (n := k1) (w := .ref (f + 6 + k1)) (pc' := 36) i21_35 rfl (x_alE (a := 23) (FL_lt1 hf) w12.1 (FL_sh1 hf) (by decide) e2 g3 (by decide)) (x_clE e2 g3 (by decide)) (x_agR (w12.2 _ _ _ (LK_pf hf g3))) ?_
  refine e_ld (pc' := 37) i21_36 rfl rfl ?_
  refine e_ld (pc' := 38) i21_37 rfl rfl ?_
  refine e_get (w := .ref (f + 4)) (pc' := 41) i21_38 rfl (x_isF hf w12.1) (x_fvR (by decide +kernel) (w12.2 _ _ _ (FL_lk5 hf))) ?_
  refine e_ld (pc' := 42) i21_41 rfl rfl ?_
  refine e_al (n := k1) (w := .int (gI h9 (f + 4) k1)) (pc' := 43) i21_42 rfl (x_alE (a := 20) (FL_lt4 hf) w12.1 (FL_sh4 hf) (by decide) e2 g3 (by decide)) (x_clE e2 g3 (by decide)) rfl ?_
  obtain ⟨h12, s13, H⟩ := H
  have w16q := HW_sp (show x_okm 38 = true by rfl) s13 w12
  have w16 : HW h12 := w16q.1
  refine e_cV (As := [.ref (f + 6 + k1), .int r8, .int (gI h9 (f + 4) k1)]) (rest := []) (pc' := 46) i21_43 rfl rfl rfl rfl (by show (Nat.beq (x_kd 38) 0 && x_is (f + 6 + k1) _ (MC 38) 0) = true; rw [show x_kd 38 = 0 by decide +kernel, show MC 38 = 3 by decide +kernel, (x_isP (PT_f hf g3) w12.1)]; rfl) s13 ?_
  refine e_ld (pc' := 47) i21_46 rfl rfl ?_
  refine e_get (w := .ref (f + 1)) (pc' := 50) i21_47 rfl (x_isF hf w16.1) (x_fvR (by decide +kernel) (w16.2 _ _ _ (FL_lk1 hf))) ?_
  refine e_ld (pc' := 51) i21_50 rfl rfl ?_
  refine e_al (n := k1) (w := .ref (f + 6 + k1)) (pc' := 52) i21_51 rfl (x_alE (a := 23) (FL_lt1 hf) w16.1 (FL_sh1 hf) (by decide) e2 g3 (by decide)) (x_clE e2 g3 (by decide)) (x_agR (w16.2 _ _ _ (LK_pf hf g3))) ?_
  refine e_get (w := .int (gI h12 (f + 6 + k1) 0)) (pc' := 55) i21_52 rfl (x_isP (PT_f hf g3) w16.1) rfl ?_
  refine e_cn (pc' := 57) i21_55 rfl ?_
  refine e_ic (pc' := 60) i21_57 rfl (fun c15 => ?_) (fun c15 => ?_)
  · have d16 : (gI h12 (f + 6 + k1) 0) = 7 := (of_decide_eq_true c15)
    replace H := H.1 d16
    refine e_ld (pc' := 63) i21_62 rfl rfl ?_
    refine e_get (w := .ref (f + 2)) (pc' := 66) i21_63 rfl (x_isF hf w16.1) (x_fvR (by decide +kernel) (w16.2 _ _ _ (FL_lk2 hf))) ?_
    refine e_ld (pc' := 67) i21_66 rfl rfl ?_
    refine e_stk (pc' := 68) i21_67 rfl rfl ?_
    obtain ⟨k17, e18, g19, H⟩ := H
    refine e_al (n := k17) (w := .int (gI h12 (f + 2) k17)) (pc' := 69) i21_68 rfl (x_alE (a := 20) (FL_lt2 hf) w16.1 (FL_sh2 hf) (by decide) e18 g19 (by decide)) (x_clE e18 g19 (by decide)) rfl ?_
    refine e_cn (pc' := 70) i21_69 rfl ?_
    refine e_ib (z := (gI h12 (f + 2) k17) + 1) (pc' := 71) i21_70 rfl rfl ?_
    refine e_as (n := k17) (h' := sI h12 (f + 2) k17 ((gI h12 (f + 2) k17) + 1)) (pc' := 72) i21_71 rfl (x_alE (a := 20) (FL_lt2 hf) w16.1 (FL_sh2 hf) (by decide) e18 g19 (by decide)) (x_clE e18 g19 (by decide)) (by rw [(show (SH (f + 2)).1 = 20 by rw [FL_sh2 hf])]; rfl) ?_
    have w23 : HW (sI h12 (f + 2) k17 ((gI h12 (f + 2) k17) + 1)) := HW_sI w16
    refine e_cn (pc' := 73) i21_72 rfl ?_
    refine e_rt i21_73 rfl ?_
    exact H
  · have d21 : ¬ ((gI h12 (f + 6 + k1) 0) = 7) := (of_decide_eq_false c15)
    replace H := H.2 d21
    refine e_cn (pc' := 61) i21_60 rfl ?_
    refine e_rt i21_61 rfl ?_
    exact H
-- FloorTurn$Floor.countParts()I
set_option maxHeartbeats 8000000 in
set_option maxRecDepth 100000 in
theorem v22 {L : Nat} {xs : Nat → Int32} {Q : Option Value → Hp → Prop} {h : Hp} {f : Nat} (hw : HW h) (hf : FL f)
  (H : WP L xs 22 4 [some (.ref f), some (.int 0), some (.int 0)] [] h Q) : ∃ r h', Sp L xs 22 [.ref f] h r h' ∧ Q r h' := by
  refine sp_ex (ls := [some (.ref f), none, none]) rfl ?_
  refine e_cn (pc' := 1) i22_0 rfl ?_
  refine e_st (ls' := [some (.ref f), some (.int 0), none]) (pc' := 2) i22_1 rfl rfl rfl ?_
  refine e_cn (pc' := 3) i22_2 rfl ?_
  refine e_st (ls' := [some (.ref f), some (.int 0), some (.int 0)]) (pc' := 4) i22_3 rfl rfl rfl ?_
  exact H
set_option maxHeartbeats 8000000 in
set_option maxRecDepth 100000 in
theorem v22_4 {L : Nat} {xs : Nat → Int32} {Q : Option Value → Hp → Prop} {h : Hp} {f : Nat} {l1 : Int32} {l2 : Int32} (hw : HW h) (hf : FL f)
  (H : ((144 ≤ l2) → (Q (some (.int l1)) h)) ∧ (¬ (144 ≤ l2) → (∃ k4 : Nat, l2 = nI k4 ∧ k4 < 144 ∧ (((gI h (f + 6 + k4) 0) = 0) → (WP L xs 22 4 [some (.ref f), some (.int l1), some (.int (l2 + 1))] [] h Q)) ∧ (¬ ((gI h (f + 6 + k4) 0) = 0) → (WP L xs 22 4 [some (.ref f), some (.int (l1 + 1)), some (.int (l2 + 1))] [] h Q))))) : WP L xs 22 4 [some (.ref f), some (.int l1), some (.int l2)] [] h Q := by
  refine e_ld (pc' := 5) i22_4 rfl rfl ?_
  refine e_cn (pc' := 8) i22_5 rfl ?_
  refine e_ic (pc' := 11) i22_8 rfl (fun c1 => ?_) (fun c1 => ?_)
  · have d2 : 144 ≤ l2 := (of_decide_eq_true c1)
    replace H := H.1 d2
    refine e_ld (pc' := 33) i22_32 rfl rfl ?_
    refine e_rt i22_33 rfl ?_
    exact H
  · have d3 : ¬ (144 ≤ l2) := (of_decide_eq_false c1)
    replace H := H.2 d3
    refine e_ld (pc' := 12) i22_11 rfl rfl ?_
    refine e_get (w := .ref (f + 1)) (pc' := 15) i22_12 rfl (x_isF hf hw.1) (x_fvR (by decide +kernel) (hw.2 _ _ _ (FL_lk1 hf))) ?_
    refine e_ld (pc' := 16) i22_15 rfl rfl ?_
    obtain ⟨k4, e5, g6, H⟩ := H
    refine e_al (n := k4) (w := .ref (f + 6 + k4)) (pc' := 17) i22_16 rfl (x_alE (a := 23) (FL_lt1 hf) hw.1 (FL_sh1 hf) (by decide) e5 g6 (by decide)) (x_clE e5 g6 (by decide)) (x_agR (hw.2 _ _ _ (LK_pf hf g6))) ?_
    refine e_get (w := .int (gI h (f + 6 + k4) 0)) (pc' := 20) i22_17 rfl (x_isP (PT_f hf g6) hw.1) rfl ?_
    refine e_if (pc' := 23) i22_20 rfl (fun c7 => ?_) (fun c7 => ?_)
    · have d8 : (gI h (f + 6 + k4) 0) = 0 := (of_decide_eq_true c7)
      replace H := H.1 d8
      refine e_inc (z := l2 + 1) (ls' := [some (.ref f), some (.int l1), some (.int (l2 + 1))]) (pc' := 29) i22_26 rfl rfl rfl rfl ?_
      refine e_go i22_29 ?_
      exact H
    · have d9 : ¬ ((gI h (f + 6 + k4) 0) = 0) := (of_decide_eq_false c7)
      replace H := H.2 d9
      refine e_inc (z := l1 + 1) (ls' := [some (.ref f), some (.int (l1 + 1)), some (.int l2)]) (pc' := 26) i22_23 rfl rfl rfl rfl ?_
      refine e_inc (z := l2 + 1) (ls' := [some (.ref f), some (.int (l1 + 1)), some (.int (l2 + 1))]) (pc' := 29) i22_26 rfl rfl rfl rfl ?_
      refine e_go i22_29 ?_
      exact H
-- FloorTurn$Floor.countItems()I
set_option maxHeartbeats 8000000 in
set_option maxRecDepth 100000 in
theorem v23 {L : Nat} {xs : Nat → Int32} {Q : Option Value → Hp → Prop} {h : Hp} {f : Nat} (hw : HW h) (hf : FL f)
  (H : WP L xs 23 4 [some (.ref f), some (.int 0), some (.int 0)] [] h Q) : ∃ r h', Sp L xs 23 [.ref f] h r h' ∧ Q r h' := by
  refine sp_ex (ls := [some (.ref f), none, none]) rfl ?_
  refine e_cn (pc' := 1) i23_0 rfl ?_
  refine e_st (ls' := [some (.ref f), some (.int 0), none]) (pc' := 2) i23_1 rfl rfl rfl ?_
  refine e_cn (pc' := 3) i23_2 rfl ?_
  refine e_st (ls' := [some (.ref f), some (.int 0), some (.int 0)]) (pc' := 4) i23_3 rfl rfl rfl ?_
  exact H
set_option maxHeartbeats 8000000 in
set_option maxRecDepth 100000 in
theorem v23_4 {L : Nat} {xs : Nat → Int32} {Q : Option Value → Hp → Prop} {h : Hp} {f : Nat} {l1 : Int32} {l2 : Int32} (hw : HW h) (hf : FL f)
  (H : ((144 ≤ l2) → (Q (some (.int l1)) h)) ∧ (¬ (144 ≤ l2) → (∃ k4 : Nat, l2 = nI k4 ∧ k4 < 144 ∧ ∃ (r8 : Int32), Sp L xs 39 [.ref (f + 6 + k4)] h (some (.int r8)) h ∧ WP L xs 23 4 [some (.ref f), some (.int (l1 + r8)), some (.int (l2 + 1))] [] h Q))) : WP L xs 23 4 [some (.ref f), some (.int l1), some (.int l2)] [] h Q := by
  refine e_ld (pc' := 5) i23_4 rfl rfl ?_
  refine e_cn (pc' := 8) i23_5 rfl ?_
  refine e_ic (pc' := 11) i23_8 rfl (fun c1 => ?_) (fun c1 => ?_)
  · have d2 : 144 ≤ l2 := (of_decide_eq_true c1)
    replace H := H.1 d2
    refine e_ld (pc' := 30) i23_29 rfl rfl ?_
    refine e_rt i23_30 rfl ?_
    exact H
  · have d3 : ¬ (144 ≤ l2) := (of_decide_eq_false c1)
    replace H := H.2 d3
    refine e_ld (pc' := 12) i23_11 rfl rfl ?_
    refine e_ld (pc' := 13) i23_12 rfl rfl ?_
    refine e_get (w := .ref (f + 1)) (pc' := 16) i23_13 rfl (x_isF hf hw.1) (x_fvR (by decide +kernel) (hw.2 _ _ _ (FL_lk1 hf))) ?_
    refine e_ld (pc' := 17) i23_16 rfl rfl ?_
    obtain ⟨k4, e5, g6, H⟩ := H
    refine e_al (n := k4) (w := .ref (f + 6 + k4)) (pc' := 18) i23_17 rfl (x_alE (a := 23) (FL_lt1 hf) hw.1 (FL_sh1 hf) (by decide) e5 g6 (by decide)) (x_clE e5 g6 (by decide)) (x_agR (hw.2 _ _ _ (LK_pf hf g6))) ?_
    obtain ⟨r8, s7, H⟩ := H
    refine e_cI (w := .int r8) (As := [.ref (f + 6 + k4)]) (rest := [.int l1]) (pc' := 21) i23_18 rfl rfl rfl rfl (by show (Nat.beq (x_kd 39) 0 && x_is (f + 6 + k4) _ (MC 39) 0) = true; rw [show x_kd 39 = 0 by decide +kernel, show MC 39 = 3 by decide +kernel, (x_isP (PT_f hf g6) hw.1)]; rfl) s7 ?_
    refine e_ib (z := l1 + r8) (pc' := 22) i23_21 rfl rfl ?_
    refine e_st (ls' := [some (.ref f), some (.int (l1 + r8)), some (.int l2)]) (pc' := 23) i23_22 rfl rfl rfl ?_
    refine e_inc (z := l2 + 1) (ls' := [some (.ref f), some (.int (l1 + r8)), some (.int (l2 + 1))]) (pc' := 26) i23_23 rfl rfl rfl rfl ?_
    refine e_go i23_26 ?_
    exact H
-- FloorTurn$Floor.countSunk()I
set_option maxHeartbeats 8000000 in
set_option maxRecDepth 100000 in
theorem v24 {L : Nat} {xs : Nat → Int32} {Q : Option Value → Hp → Prop} {h : Hp} {f : Nat} (hw : HW h) (hf : FL f)
  (H : WP L xs 24 4 [some (.ref f), some (.int 0), some (.int 1)] [] h Q) : ∃ r h', Sp L xs 24 [.ref f] h r h' ∧ Q r h' := by
  refine sp_ex (ls := [some (.ref f), none, none]) rfl ?_
  refine e_cn (pc' := 1) i24_0 rfl ?_
  refine e_st (ls' := [some (.ref f), some (.int 0), none]) (pc' := 2) i24_1 rfl rfl rfl ?_
  refine e_cn (pc' := 3) i24_2 rfl ?_
  refine e_st (ls' := [some (.ref f), some (.int 0), some (.int 1)]) (pc' := 4) i24_3 rfl rfl rfl ?_
  exact H
set_option maxHeartbeats 8000000 in
set_option maxRecDepth 100000 in
theorem v24_4 {L : Nat} {xs : Nat → Int32} {Q : Option Value → Hp → Prop} {h : Hp} {f : Nat} {l1 : Int32} {l2 : Int32} (hw : HW h) (hf : FL f)
  (H : ((20 < l2) → (Q (some (.int l1)) h)) ∧ (¬ (20 < l2) → (∃ k4 : Nat, l2 = nI k4 ∧ k4 < 21 ∧ WP L xs 24 4 [some (.ref f), some (.int (l1 + (gI h (f + 2) k4))), some (.int (l2 + 1))] [] h Q))) : WP L xs 24 4 [some (.ref f), some (.int l1), some (.int l2)] [] h Q := by
  refine e_ld (pc' := 5) i24_4 rfl rfl ?_
  refine e_cn (pc' := 7) i24_5 rfl ?_
  refine e_ic (pc' := 10) i24_7 rfl (fun c1 => ?_) (fun c1 => ?_)
  · have d2 : 20 < l2 := (of_decide_eq_true c1)
    replace H := H.1 d2
    refine e_ld (pc' := 26) i24_25 rfl rfl ?_
    refine e_rt i24_26 rfl ?_
    exact H
  · have d3 : ¬ (20 < l2) := (of_decide_eq_false c1)
    replace H := H.2 d3
    refine e_ld (pc' := 11) i24_10 rfl rfl ?_
    refine e_ld (pc' := 12) i24_11 rfl rfl ?_
    refine e_get (w := .ref (f + 2)) (pc' := 15) i24_12 rfl (x_isF hf hw.1) (x_fvR (by decide +kernel) (hw.2 _ _ _ (FL_lk2 hf))) ?_
    refine e_ld (pc' := 16) i24_15 rfl rfl ?_
    obtain ⟨k4, e5, g6, H⟩ := H
    refine e_al (n := k4) (w := .int (gI h (f + 2) k4)) (pc' := 17) i24_16 rfl (x_alE (a := 20) (FL_lt2 hf) hw.1 (FL_sh2 hf) (by decide) e5 g6 (by decide)) (x_clE e5 g6 (by decide)) rfl ?_
    refine e_ib (z := l1 + (gI h (f + 2) k4)) (pc' := 18) i24_17 rfl rfl ?_
    refine e_st (ls' := [some (.ref f), some (.int (l1 + (gI h (f + 2) k4))), some (.int l2)]) (pc' := 19) i24_18 rfl rfl rfl ?_
    refine e_inc (z := l2 + 1) (ls' := [some (.ref f), some (.int (l1 + (gI h (f + 2) k4))), some (.int (l2 + 1))]) (pc' := 22) i24_19 rfl rfl rfl rfl ?_
    refine e_go i24_22 ?_
    exact H
-- FloorTurn$Part.become(IIIILFloorTurn$Recipe;)V
set_option maxHeartbeats 8000000 in
set_option maxRecDepth 100000 in
theorem v26null {L : Nat} {xs : Nat → Int32} {Q : Option Value → Hp → Prop} {h : Hp} {p : Nat} {x : Int32} {y : Int32} {z : Int32} {u : Int32} (hw : HW h) (hp : PT p)
  (H : ((x = 6) → (∃ (h67 : Hp), Sp L xs 27 [.ref p] (sI (sI (sI (sI (sI (sI (sI (sI (sI (sR (sI (sI (sI (sI h p 0 x) p 1 (if (if x = 0 then (false) else (if x = 7 then (false) else (true))) = true then (y) else (0))) p 2 (if x = 5 then (z) else (if x = 6 then (z) else (0)))) p 3 (if x = 5 then (u) else (0))) p 4 none) p 5 0) p 6 0) p 7 0) p 8 0) p 9 0) p 10 0) p 11 0) p 12 (if x = 0 then (0) else (3))) p 13 (gI (sI (sI (sI (sI (sI (sI (sI (sI (sR (sI (sI (sI (sI h p 0 x) p 1 (if (if x = 0 then (false) else (if x = 7 then (false) else (true))) = true then (y) else (0))) p 2 (if x = 5 then (z) else (if x = 6 then (z) else (0)))) p 3 (if x = 5 then (u) else (0))) p 4 none) p 5 0) p 6 0) p 7 0) p 8 0) p 9 0) p 10 0) p 11 0) p 12 (if x = 0 then (0) else (3))) p 12)) none h67 ∧ Q none h67)) ∧ (¬ (x = 6) → (∃ (h49 : Hp), Sp L xs 27 [.ref p] (sI (sI (sI (sI (sI (sI (sI (sI (sI (sR (sI (sI (sI (sI h p 0 x) p 1 (if (if x = 0 then (false) else (if x = 7 then (false) else (true))) = true then (y) else (0))) p 2 (if x = 5 then (z) else (if x = 6 then (z) else (0)))) p 3 (if x = 5 then (u) else (0))) p 4 none) p 5 0) p 6 0) p 7 0) p 8 0) p 9 0) p 10 0) p 11 0) p 12 (if x = 0 then (0) else (3))) p 13 (gI (sI (sI (sI (sI (sI (sI (sI (sI (sR (sI (sI (sI (sI h p 0 x) p 1 (if (if x = 0 then (false) else (if x = 7 then (false) else (true))) = true then (y) else (0))) p 2 (if x = 5 then (z) else (if x = 6 then (z) else (0)))) p 3 (if x = 5 then (u) else (0))) p 4 none) p 5 0) p 6 0) p 7 0) p 8 0) p 9 0) p 10 0) p 11 0) p 12 (if x = 0 then (0) else (3))) p 12)) none h49 ∧ Q none h49))) : ∃ r h', Sp L xs 26 [.ref p, .int x, .int y, .int z, .int u, .null] h r h' ∧ Q r h' := by
  refine sp_ex (ls := [some (.ref p), some (.int x), some (.int y), some (.int z), some (.int u), some (.null), none]) rfl ?_
  refine e_ld (pc' := 1) i26_0 rfl rfl ?_
  refine e_reg (pc' := 15) (ls' := [some (.ref p), some (.int x), some (.int y), some (.int z), some (.int u), some (.null), none]) (st' := [.int (b2i (if x = 0 then (false) else (if x = 7 then (false) else (true))))]) (fun kj1 => ?_) ?_
  · skip
    refine e_if (pc' := 4) i26_1 rfl (fun c2 => ?_) (fun c2 => ?_)
    · have d3 : x = 0 := (of_decide_eq_true c2)
      refine e_cn (pc' := 15) i26_14 rfl ?_
      exact (by simp only [if_pos d3] at kj1 ⊢; exact kj1)
    · have d4 : ¬ (x = 0) := (of_decide_eq_false c2)
      refine e_ld (pc' := 5) i26_4 rfl rfl ?_
      refine e_cn (pc' := 7) i26_5 rfl ?_
      refine e_reg (pc' := 15) (ls' := [some (.ref p), some (.int x), some (.int y), some (.int z), some (.int u), some (.null), none]) (st' := [.int (b2i (if x = 7 then (false) else (true)))]) (fun kj5 => ?_) ?_
      · skip
        refine e_ic (pc' := 10) i26_7 rfl (fun c6 => ?_) (fun c6 => ?_)
        · have d7 : x = 7 := (of_decide_eq_true c6)
          refine e_cn (pc' := 15) i26_14 rfl ?_
          exact (by simp only [if_pos d7] at kj5 ⊢; exact kj5)
        · have d8 : ¬ (x = 7) := (of_decide_eq_false c6)
          refine e_cn (pc' := 11) i26_10 rfl ?_
          refine e_go i26_11 ?_
          exact (by simp only [if_neg d8] at kj5 ⊢; exact kj5)
      exact (by simp only [if_neg d4] at kj1 ⊢; exact kj1)
  refine e_st (ls' := [some (.ref p), some (.int x), some (.int y), some (.int z), some (.int u), some (.null), some (.int (b2i (if x = 0 then (false) else (if x = 7 then (false) else (true)))))]) (pc' := 17) i26_15 rfl rfl rfl ?_
  refine e_ld (pc' := 18) i26_17 rfl rfl ?_
  refine e_ld (pc' := 19) i26_18 rfl rfl ?_
  refine e_put (h' := sI h p 0 x) (pc' := 22) i26_19 rfl (x_isP hp hw.1) rfl ?_
  have w10 : HW (sI h p 0 x) := HW_sI hw
  refine e_ld (pc' := 23) i26_22 rfl rfl ?_
  refine e_ld (pc' := 25) i26_23 rfl rfl ?_
  refine e_reg (pc' := 33) (ls' := [some (.ref p), some (.int x), some (.int y), some (.int z), some (.int u), some (.null), some (.int (b2i (if x = 0 then (false) else (if x = 7 then (false) else (true)))))]) (st' := [.int (if (if x = 0 then (false) else (if x = 7 then (false) else (true))) = true then (y) else (0)), .ref p]) (fun kj10 => ?_) ?_
  · skip
    refine e_b0 (pc' := 28) i26_25 rfl (fun c11 => ?_) (fun c11 => ?_)
    · have d12 : ¬ ((if x = 0 then (false) else (if x = 7 then (false) else (true))) = true) := (show ¬ (if x = 0 then (false) else (if x = 7 then (false) else (true))) = true by rw [c11]; decide)
      refine e_cn (pc' := 33) i26_32 rfl ?_
      exact (by simp only [if_neg d12] at kj10 ⊢; exact kj10)
    · have d13 : (if x = 0 then (false) else (if x = 7 then (false) else (true))) = true := c11
      refine e_ld (pc' := 29) i26_28 rfl rfl ?_
      refine e_go i26_29 ?_
      exact (by simp only [if_pos d13] at kj10 ⊢; exact kj10)
  refine e_put (h' := sI (sI h p 0 x) p 1 (if (if x = 0 then (false) else (if x = 7 then (false) else (true))) = true then (y) else (0))) (pc' := 36) i26_33 rfl (x_isP hp w10.1) rfl ?_
  have w16 : HW (sI (sI h p 0 x) p 1 (if (if x = 0 then (false) else (if x = 7 then (false) else (true))) = true then (y) else (0))) := HW_sI w10
  refine e_ld (pc' := 37) i26_36 rfl rfl ?_
  refine e_ld (pc' := 38) i26_37 rfl rfl ?_
  refine e_cn (pc' := 39) i26_38 rfl ?_
  refine e_reg (pc' := 53) (ls' := [some (.ref p), some (.int x), some (.int y), some (.int z), some (.int u), some (.null), some (.int (b2i (if x = 0 then (false) else (if x = 7 then (false) else (true)))))]) (st' := [.int (if x = 5 then (z) else (if x = 6 then (z) else (0))), .ref p]) (fun kj15 => ?_) ?_
  · skip
    refine e_ic (pc' := 42) i26_39 rfl (fun c16 => ?_) (fun c16 => ?_)
    · have d17 : x = 5 := (of_decide_eq_true c16)
      refine e_ld (pc' := 49) i26_48 rfl rfl ?_
      refine e_go i26_49 ?_
      exact (by simp only [if_pos d17] at kj15 ⊢; exact kj15)
    · have d18 : ¬ (x = 5) := (of_decide_eq_false c16)
      refine e_ld (pc' := 43) i26_42 rfl rfl ?_
      refine e_cn (pc' := 45) i26_43 rfl ?_
      refine e_reg (pc' := 53) (ls' := [some (.ref p), some (.int x), some (.int y), some (.int z), some (.int u), some (.null), some (.int (b2i (if x = 0 then (false) else (if x = 7 then (false) else (true)))))]) (st' := [.int (if x = 6 then (z) else (0)), .ref p]) (fun kj19 => ?_) ?_
      · skip
        refine e_ic (pc' := 48) i26_45 rfl (fun c20 => ?_) (fun c20 => ?_)
        · have d21 : ¬ (x = 6) := (of_decide_eq_true c20)
          refine e_cn (pc' := 53) i26_52 rfl ?_
          exact (by simp only [if_neg d21] at kj19 ⊢; exact kj19)
        · have d22 : x = 6 := (Decidable.not_not.mp (of_decide_eq_false c20))
          refine e_ld (pc' := 49) i26_48 rfl rfl ?_
          refine e_go i26_49 ?_
          exact (by simp only [if_pos d22] at kj19 ⊢; exact kj19)
      exact (by simp only [if_neg d18] at kj15 ⊢; exact kj15)
  refine e_put (h' := sI (sI (sI h p 0 x) p 1 (if (if x = 0 then (false) else (if x = 7 then (false) else (true))) = true then (y) else (0))) p 2 (if x = 5 then (z) else (if x = 6 then (z) else (0)))) (pc' := 56) i26_53 rfl (x_isP hp w16.1) rfl ?_
  have w26 : HW (sI (sI (sI h p 0 x) p 1 (if (if x = 0 then (false) else (if x = 7 then (false) else (true))) = true then (y) else (0))) p 2 (if x = 5 then (z) else (if x = 6 then (z) else (0)))) := HW_sI w16
  refine e_ld (pc' := 57) i26_56 rfl rfl ?_
  refine e_ld (pc' := 58) i26_57 rfl rfl ?_
  refine e_cn (pc' := 59) i26_58 rfl ?_
  refine e_reg (pc' := 68) (ls' := [some (.ref p), some (.int x), some (.int y), some (.int z), some (.int u), some (.null), some (.int (b2i (if x = 0 then (false) else (if x = 7 then (false) else (true)))))]) (st' := [.int (if x = 5 then (u) else (0)), .ref p]) (fun kj24 => ?_) ?_
  · skip
    refine e_ic (pc' := 62) i26_59 rfl (fun c25 => ?_) (fun c25 => ?_)
    · have d26 : ¬ (x = 5) := (of_decide_eq_true c25)
      refine e_cn (pc' := 68) i26_67 rfl ?_
      exact (by simp only [if_neg d26] at kj24 ⊢; exact kj24)
    · have d27 : x = 5 := (Decidable.not_not.mp (of_decide_eq_false c25))
      refine e_ld (pc' := 64) i26_62 rfl rfl ?_
      refine e_go i26_64 ?_
      exact (by simp only [if_pos d27] at kj24 ⊢; exact kj24)
  refine e_put (h' := sI (sI (sI (sI h p 0 x) p 1 (if (if x = 0 then (false) else (if x = 7 then (false) else (true))) = true then (y) else (0))) p 2 (if x = 5 then (z) else (if x = 6 then (z) else (0)))) p 3 (if x = 5 then (u) else (0))) (pc' := 71) i26_68 rfl (x_isP hp w26.1) rfl ?_
  have w32 : HW (sI (sI (sI (sI h p 0 x) p 1 (if (if x = 0 then (false) else (if x = 7 then (false) else (true))) = true then (y) else (0))) p 2 (if x = 5 then (z) else (if x = 6 then (z) else (0)))) p 3 (if x = 5 then (u) else (0))) := HW_sI w26
  refine e_ld (pc' := 72) i26_71 rfl rfl ?_
  refine e_ld (pc' := 73) i26_72 rfl rfl ?_
  refine e_cn (pc' := 75) i26_73 rfl ?_
  refine e_ic (pc' := 78) i26_75 rfl (fun c33 => ?_) (fun c33 => ?_)
  · have d34 : ¬ (x = 6) := (of_decide_eq_true c33)
    replace H := H.2 d34
    refine e_cn (pc' := 84) i26_83 rfl ?_
    refine e_put (h' := sR (sI (sI (sI (sI h p 0 x) p 1 (if (if x = 0 then (false) else (if x = 7 then (false) else (true))) = true then (y) else (0))) p 2 (if x = 5 then (z) else (if x = 6 then (z) else (0)))) p 3 (if x = 5 then (u) else (0))) p 4 none) (pc' := 87) i26_84 rfl (x_isP hp w32.1) rfl ?_
    have w40 : HW (sR (sI (sI (sI (sI h p 0 x) p 1 (if (if x = 0 then (false) else (if x = 7 then (false) else (true))) = true then (y) else (0))) p 2 (if x = 5 then (z) else (if x = 6 then (z) else (0)))) p 3 (if x = 5 then (u) else (0))) p 4 none) := HW_sRp hp w32
    refine e_ld (pc' := 88) i26_87 rfl rfl ?_
    refine e_cn (pc' := 89) i26_88 rfl ?_
    refine e_put (h' := sI (sR (sI (sI (sI (sI h p 0 x) p 1 (if (if x = 0 then (false) else (if x = 7 then (false) else (true))) = true then (y) else (0))) p 2 (if x = 5 then (z) else (if x = 6 then (z) else (0)))) p 3 (if x = 5 then (u) else (0))) p 4 none) p 5 0) (pc' := 92) i26_89 rfl (x_isP hp w40.1) rfl ?_
    have w42 : HW (sI (sR (sI (sI (sI (sI h p 0 x) p 1 (if (if x = 0 then (false) else (if x = 7 then (false) else (true))) = true then (y) else (0))) p 2 (if x = 5 then (z) else (if x = 6 then (z) else (0)))) p 3 (if x = 5 then (u) else (0))) p 4 none) p 5 0) := HW_sI w40
    refine e_ld (pc' := 93) i26_92 rfl rfl ?_
    refine e_cn (pc' := 94) i26_93 rfl ?_
    refine e_put (h' := sI (sI (sR (sI (sI (sI (sI h p 0 x) p 1 (if (if x = 0 then (false) else (if x = 7 then (false) else (true))) = true then (y) else (0))) p 2 (if x = 5 then (z) else (if x = 6 then (z) else (0)))) p 3 (if x = 5 then (u) else (0))) p 4 none) p 5 0) p 6 0) (pc' := 97) i26_94 rfl (x_isP hp w42.1) rfl ?_
    have w44 : HW (sI (sI (sR (sI (sI (sI (sI h p 0 x) p 1 (if (if x = 0 then (false) else (if x = 7 then (false) else (true))) = true then (y) else (0))) p 2 (if x = 5 then (z) else (if x = 6 then (z) else (0)))) p 3 (if x = 5 then (u) else (0))) p 4 none) p 5 0) p 6 0) := HW_sI w42
    refine e_ld (pc' := 98) i26_97 rfl rfl ?_
    refine e_cn (pc' := 99) i26_98 rfl ?_
    refine e_put (h' := sI (sI (sI (sR (sI (sI (sI (sI h p 0 x) p 1 (if (if x = 0 then (false) else (if x = 7 then (false) else (true))) = true then (y) else (0))) p 2 (if x = 5 then (z) else (if x = 6 then (z) else (0)))) p 3 (if x = 5 then (u) else (0))) p 4 none) p 5 0) p 6 0) p 7 0) (pc' := 102) i26_99 rfl (x_isP hp w44.1) rfl ?_
    have w46 : HW (sI (sI (sI (sR (sI (sI (sI (sI h p 0 x) p 1 (if (if x = 0 then (false) else (if x = 7 then (false) else (true))) = true then (y) else (0))) p 2 (if x = 5 then (z) else (if x = 6 then (z) else (0)))) p 3 (if x = 5 then (u) else (0))) p 4 none) p 5 0) p 6 0) p 7 0) := HW_sI w44
    refine e_ld (pc' := 103) i26_102 rfl rfl ?_
    refine e_cn (pc' := 104) i26_103 rfl ?_
    refine e_put (h' := sI (sI (sI (sI (sR (sI (sI (sI (sI h p 0 x) p 1 (if (if x = 0 then (false) else (if x = 7 then (false) else (true))) = true then (y) else (0))) p 2 (if x = 5 then (z) else (if x = 6 then (z) else (0)))) p 3 (if x = 5 then (u) else (0))) p 4 none) p 5 0) p 6 0) p 7 0) p 8 0) (pc' := 107) i26_104 rfl (x_isP hp w46.1) rfl ?_
    have w48 : HW (sI (sI (sI (sI (sR (sI (sI (sI (sI h p 0 x) p 1 (if (if x = 0 then (false) else (if x = 7 then (false) else (true))) = true then (y) else (0))) p 2 (if x = 5 then (z) else (if x = 6 then (z) else (0)))) p 3 (if x = 5 then (u) else (0))) p 4 none) p 5 0) p 6 0) p 7 0) p 8 0) := HW_sI w46
    refine e_ld (pc' := 108) i26_107 rfl rfl ?_
    refine e_cn (pc' := 109) i26_108 rfl ?_
    refine e_put (h' := sI (sI (sI (sI (sI (sR (sI (sI (sI (sI h p 0 x) p 1 (if (if x = 0 then (false) else (if x = 7 then (false) else (true))) = true then (y) else (0))) p 2 (if x = 5 then (z) else (if x = 6 then (z) else (0)))) p 3 (if x = 5 then (u) else (0))) p 4 none) p 5 0) p 6 0) p 7 0) p 8 0) p 9 0) (pc' := 112) i26_109 rfl (x_isP hp w48.1) rfl ?_
    have w50 : HW (sI (sI (sI (sI (sI (sR (sI (sI (sI (sI h p 0 x) p 1 (if (if x = 0 then (false) else (if x = 7 then (false) else (true))) = true then (y) else (0))) p 2 (if x = 5 then (z) else (if x = 6 then (z) else (0)))) p 3 (if x = 5 then (u) else (0))) p 4 none) p 5 0) p 6 0) p 7 0) p 8 0) p 9 0) := HW_sI w48
    refine e_ld (pc' := 113) i26_112 rfl rfl ?_
    refine e_cn (pc' := 114) i26_113 rfl ?_
    refine e_put (h' := sI (sI (sI (sI (sI (sI (sR (sI (sI (sI (sI h p 0 x) p 1 (if (if x = 0 then (false) else (if x = 7 then (false) else (true))) = true then (y) else (0))) p 2 (if x = 5 then (z) else (if x = 6 then (z) else (0)))) p 3 (if x = 5 then (u) else (0))) p 4 none) p 5 0) p 6 0) p 7 0) p 8 0) p 9 0) p 10 0) (pc' := 117) i26_114 rfl (x_isP hp w50.1) rfl ?_
    have w52 : HW (sI (sI (sI (sI (sI (sI (sR (sI (sI (sI (sI h p 0 x) p 1 (if (if x = 0 then (false) else (if x = 7 then (false) else (true))) = true then (y) else (0))) p 2 (if x = 5 then (z) else (if x = 6 then (z) else (0)))) p 3 (if x = 5 then (u) else (0))) p 4 none) p 5 0) p 6 0) p 7 0) p 8 0) p 9 0) p 10 0) := HW_sI w50
    refine e_ld (pc' := 118) i26_117 rfl rfl ?_
    refine e_cn (pc' := 119) i26_118 rfl ?_
    refine e_put (h' := sI (sI (sI (sI (sI (sI (sI (sR (sI (sI (sI (sI h p 0 x) p 1 (if (if x = 0 then (false) else (if x = 7 then (false) else (true))) = true then (y) else (0))) p 2 (if x = 5 then (z) else (if x = 6 then (z) else (0)))) p 3 (if x = 5 then (u) else (0))) p 4 none) p 5 0) p 6 0) p 7 0) p 8 0) p 9 0) p 10 0) p 11 0) (pc' := 122) i26_119 rfl (x_isP hp w52.1) rfl ?_
    have w54 : HW (sI (sI (sI (sI (sI (sI (sI (sR (sI (sI (sI (sI h p 0 x) p 1 (if (if x = 0 then (false) else (if x = 7 then (false) else (true))) = true then (y) else (0))) p 2 (if x = 5 then (z) else (if x = 6 then (z) else (0)))) p 3 (if x = 5 then (u) else (0))) p 4 none) p 5 0) p 6 0) p 7 0) p 8 0) p 9 0) p 10 0) p 11 0) := HW_sI w52
    refine e_ld (pc' := 123) i26_122 rfl rfl ?_
    refine e_ld (pc' := 124) i26_123 rfl rfl ?_
    refine e_reg (pc' := 132) (ls' := [some (.ref p), some (.int x), some (.int y), some (.int z), some (.int u), some (.null), some (.int (b2i (if x = 0 then (false) else (if x = 7 then (false) else (true)))))]) (st' := [.int (if x = 0 then (0) else (3)), .ref p]) (fun kj43 => ?_) ?_
    · skip
      refine e_if (pc' := 127) i26_124 rfl (fun c44 => ?_) (fun c44 => ?_)
      · have d45 : ¬ (x = 0) := (of_decide_eq_true c44)
        refine e_cn (pc' := 132) i26_131 rfl ?_
        exact (by simp only [if_neg d45] at kj43 ⊢; exact kj43)
      · have d46 : x = 0 := (Decidable.not_not.mp (of_decide_eq_false c44))
        refine e_cn (pc' := 128) i26_127 rfl ?_
        refine e_go i26_128 ?_
        exact (by simp only [if_pos d46] at kj43 ⊢; exact kj43)
    refine e_put (h' := sI (sI (sI (sI (sI (sI (sI (sI (sR (sI (sI (sI (sI h p 0 x) p 1 (if (if x = 0 then (false) else (if x = 7 then (false) else (true))) = true then (y) else (0))) p 2 (if x = 5 then (z) else (if x = 6 then (z) else (0)))) p 3 (if x = 5 then (u) else (0))) p 4 none) p 5 0) p 6 0) p 7 0) p 8 0) p 9 0) p 10 0) p 11 0) p 12 (if x = 0 then (0) else (3))) (pc' := 135) i26_132 rfl (x_isP hp w54.1) rfl ?_
    have w60 : HW (sI (sI (sI (sI (sI (sI (sI (sI (sR (sI (sI (sI (sI h p 0 x) p 1 (if (if x = 0 then (false) else (if x = 7 then (false) else (true))) = true then (y) else (0))) p 2 (if x = 5 then (z) else (if x = 6 then (z) else (0)))) p 3 (if x = 5 then (u) else (0))) p 4 none) p 5 0) p 6 0) p 7 0) p 8 0) p 9 0) p 10 0) p 11 0) p 12 (if x = 0 then (0) else (3))) := HW_sI w54
    refine e_ld (pc' := 136) i26_135 rfl rfl ?_
    refine e_ld (pc' := 137) i26_136 rfl rfl ?_
    refine e_get (w := .int (gI (sI (sI (sI (sI (sI (sI (sI (sI (sR (sI (sI (sI (sI h p 0 x) p 1 (if (if x = 0 then (false) else (if x = 7 then (false) else (true))) = true then (y) else (0))) p 2 (if x = 5 then (z) else (if x = 6 then (z) else (0)))) p 3 (if x = 5 then (u) else (0))) p 4 none) p 5 0) p 6 0) p 7 0) p 8 0) p 9 0) p 10 0) p 11 0) p 12 (if x = 0 then (0) else (3))) p 12)) (pc' := 140) i26_137 rfl (x_isP hp w60.1) rfl ?_
    refine e_put (h' := sI (sI (sI (sI (sI (sI (sI (sI (sI (sR (sI (sI (sI (sI h p 0 x) p 1 (if (if x = 0 then (false) else (if x = 7 then (false) else (true))) = true then (y) else (0))) p 2 (if x = 5 then (z) else (if x = 6 then (z) else (0)))) p 3 (if x = 5 then (u) else (0))) p 4 none) p 5 0) p 6 0) p 7 0) p 8 0) p 9 0) p 10 0) p 11 0) p 12 (if x = 0 then (0) else (3))) p 13 (gI (sI (sI (sI (sI (sI (sI (sI (sI (sR (sI (sI (sI (sI h p 0 x) p 1 (if (if x = 0 then (false) else (if x = 7 then (false) else (true))) = true then (y) else (0))) p 2 (if x = 5 then (z) else (if x = 6 then (z) else (0)))) p 3 (if x = 5 then (u) else (0))) p 4 none) p 5 0) p 6 0) p 7 0) p 8 0) p 9 0) p 10 0) p 11 0) p 12 (if x = 0 then (0) else (3))) p 12)) (pc' := 143) i26_140 rfl (x_isP hp w60.1) rfl ?_
    have w62 : HW (sI (sI (sI (sI (sI (sI (sI (sI (sI (sR (sI (sI (sI (sI h p 0 x) p 1 (if (if x = 0 then (false) else (if x = 7 then (false) else (true))) = true then (y) else (0))) p 2 (if x = 5 then (z) else (if x = 6 then (z) else (0)))) p 3 (if x = 5 then (u) else (0))) p 4 none) p 5 0) p 6 0) p 7 0) p 8 0) p 9 0) p 10 0) p 11 0) p 12 (if x = 0 then (0) else (3))) p 13 (gI (sI (sI (sI (sI (sI (sI (sI (sI (sR (sI (sI (sI (sI h p 0 x) p 1 (if (if x = 0 then (false) else (if x = 7 then (false) else (true))) = true then (y) else (0))) p 2 (if x = 5 then (z) else (if x = 6 then (z) else (0)))) p 3 (if x = 5 then (u) else (0))) p 4 none) p 5 0) p 6 0) p 7 0) p 8 0) p 9 0) p 10 0) p 11 0) p 12 (if x = 0 then (0) else (3))) p 12)) := HW_sI w60
    refine e_ld (pc' := 144) i26_143 rfl rfl ?_
    obtain ⟨h49, s50, H⟩ := H
    have w66q := HW_sp (show x_okm 27 = true by rfl) s50 w62
    have w66 : HW h49 := w66q.1
    refine e_cV (As := [.ref p]) (rest := []) (pc' := 147) i26_144 rfl rfl rfl rfl (by show (Nat.beq (x_kd 27) 0 && x_is p _ (MC 27) 0) = true; rw [show x_kd 27 = 0 by decide +kernel, show MC 27 = 3 by decide +kernel, (x_isP hp w62.1)]; rfl) s50 ?_
    refine e_rt i26_147 rfl ?_
    exact H
  · have d52 : x = 6 := (Decidable.not_not.mp (of_decide_eq_false c33))
    replace H := H.1 d52
    refine e_ld (pc' := 80) i26_78 rfl rfl ?_
    refine e_go i26_80 ?_
    refine e_put (h' := sR (sI (sI (sI (sI h p 0 x) p 1 (if (if x = 0 then (false) else (if x = 7 then (false) else (true))) = true then (y) else (0))) p 2 (if x = 5 then (z) else (if x = 6 then (z) else (0)))) p 3 (if x = 5 then (u) else (0))) p 4 none) (pc' := 87) i26_84 rfl (x_isP hp w32.1) rfl ?_
    have w58 : HW (sR (sI (sI (sI (sI h p 0 x) p 1 (if (if x = 0 then (false) else (if x = 7 then (false) else (true))) = true then (y) else (0))) p 2 (if x = 5 then (z) else (if x = 6 then (z) else (0)))) p 3 (if x = 5 then (u) else (0))) p 4 none) := HW_sRp hp w32
    refine e_ld (pc' := 88) i26_87 rfl rfl ?_
    refine e_cn (pc' := 89) i26_88 rfl ?_
    refine e_put (h' := sI (sR (sI (sI (sI (sI h p 0 x) p 1 (if (if x = 0 then (false) else (if x = 7 then (false) else (true))) = true then (y) else (0))) p 2 (if x = 5 then (z) else (if x = 6 then (z) else (0)))) p 3 (if x = 5 then (u) else (0))) p 4 none) p 5 0) (pc' := 92) i26_89 rfl (x_isP hp w58.1) rfl ?_
    have w60 : HW (sI (sR (sI (sI (sI (sI h p 0 x) p 1 (if (if x = 0 then (false) else (if x = 7 then (false) else (true))) = true then (y) else (0))) p 2 (if x = 5 then (z) else (if x = 6 then (z) else (0)))) p 3 (if x = 5 then (u) else (0))) p 4 none) p 5 0) := HW_sI w58
    refine e_ld (pc' := 93) i26_92 rfl rfl ?_
    refine e_cn (pc' := 94) i26_93 rfl ?_
    refine e_put (h' := sI (sI (sR (sI (sI (sI (sI h p 0 x) p 1 (if (if x = 0 then (false) else (if x = 7 then (false) else (true))) = true then (y) else (0))) p 2 (if x = 5 then (z) else (if x = 6 then (z) else (0)))) p 3 (if x = 5 then (u) else (0))) p 4 none) p 5 0) p 6 0) (pc' := 97) i26_94 rfl (x_isP hp w60.1) rfl ?_
    have w62 : HW (sI (sI (sR (sI (sI (sI (sI h p 0 x) p 1 (if (if x = 0 then (false) else (if x = 7 then (false) else (true))) = true then (y) else (0))) p 2 (if x = 5 then (z) else (if x = 6 then (z) else (0)))) p 3 (if x = 5 then (u) else (0))) p 4 none) p 5 0) p 6 0) := HW_sI w60
    refine e_ld (pc' := 98) i26_97 rfl rfl ?_
    refine e_cn (pc' := 99) i26_98 rfl ?_
    refine e_put (h' := sI (sI (sI (sR (sI (sI (sI (sI h p 0 x) p 1 (if (if x = 0 then (false) else (if x = 7 then (false) else (true))) = true then (y) else (0))) p 2 (if x = 5 then (z) else (if x = 6 then (z) else (0)))) p 3 (if x = 5 then (u) else (0))) p 4 none) p 5 0) p 6 0) p 7 0) (pc' := 102) i26_99 rfl (x_isP hp w62.1) rfl ?_
    have w64 : HW (sI (sI (sI (sR (sI (sI (sI (sI h p 0 x) p 1 (if (if x = 0 then (false) else (if x = 7 then (false) else (true))) = true then (y) else (0))) p 2 (if x = 5 then (z) else (if x = 6 then (z) else (0)))) p 3 (if x = 5 then (u) else (0))) p 4 none) p 5 0) p 6 0) p 7 0) := HW_sI w62
    refine e_ld (pc' := 103) i26_102 rfl rfl ?_
    refine e_cn (pc' := 104) i26_103 rfl ?_
    refine e_put (h' := sI (sI (sI (sI (sR (sI (sI (sI (sI h p 0 x) p 1 (if (if x = 0 then (false) else (if x = 7 then (false) else (true))) = true then (y) else (0))) p 2 (if x = 5 then (z) else (if x = 6 then (z) else (0)))) p 3 (if x = 5 then (u) else (0))) p 4 none) p 5 0) p 6 0) p 7 0) p 8 0) (pc' := 107) i26_104 rfl (x_isP hp w64.1) rfl ?_
    have w66 : HW (sI (sI (sI (sI (sR (sI (sI (sI (sI h p 0 x) p 1 (if (if x = 0 then (false) else (if x = 7 then (false) else (true))) = true then (y) else (0))) p 2 (if x = 5 then (z) else (if x = 6 then (z) else (0)))) p 3 (if x = 5 then (u) else (0))) p 4 none) p 5 0) p 6 0) p 7 0) p 8 0) := HW_sI w64
    refine e_ld (pc' := 108) i26_107 rfl rfl ?_
    refine e_cn (pc' := 109) i26_108 rfl ?_
    refine e_put (h' := sI (sI (sI (sI (sI (sR (sI (sI (sI (sI h p 0 x) p 1 (if (if x = 0 then (false) else (if x = 7 then (false) else (true))) = true then (y) else (0))) p 2 (if x = 5 then (z) else (if x = 6 then (z) else (0)))) p 3 (if x = 5 then (u) else (0))) p 4 none) p 5 0) p 6 0) p 7 0) p 8 0) p 9 0) (pc' := 112) i26_109 rfl (x_isP hp w66.1) rfl ?_
    have w68 : HW (sI (sI (sI (sI (sI (sR (sI (sI (sI (sI h p 0 x) p 1 (if (if x = 0 then (false) else (if x = 7 then (false) else (true))) = true then (y) else (0))) p 2 (if x = 5 then (z) else (if x = 6 then (z) else (0)))) p 3 (if x = 5 then (u) else (0))) p 4 none) p 5 0) p 6 0) p 7 0) p 8 0) p 9 0) := HW_sI w66
    refine e_ld (pc' := 113) i26_112 rfl rfl ?_
    refine e_cn (pc' := 114) i26_113 rfl ?_
    refine e_put (h' := sI (sI (sI (sI (sI (sI (sR (sI (sI (sI (sI h p 0 x) p 1 (if (if x = 0 then (false) else (if x = 7 then (false) else (true))) = true then (y) else (0))) p 2 (if x = 5 then (z) else (if x = 6 then (z) else (0)))) p 3 (if x = 5 then (u) else (0))) p 4 none) p 5 0) p 6 0) p 7 0) p 8 0) p 9 0) p 10 0) (pc' := 117) i26_114 rfl (x_isP hp w68.1) rfl ?_
    have w70 : HW (sI (sI (sI (sI (sI (sI (sR (sI (sI (sI (sI h p 0 x) p 1 (if (if x = 0 then (false) else (if x = 7 then (false) else (true))) = true then (y) else (0))) p 2 (if x = 5 then (z) else (if x = 6 then (z) else (0)))) p 3 (if x = 5 then (u) else (0))) p 4 none) p 5 0) p 6 0) p 7 0) p 8 0) p 9 0) p 10 0) := HW_sI w68
    refine e_ld (pc' := 118) i26_117 rfl rfl ?_
    refine e_cn (pc' := 119) i26_118 rfl ?_
    refine e_put (h' := sI (sI (sI (sI (sI (sI (sI (sR (sI (sI (sI (sI h p 0 x) p 1 (if (if x = 0 then (false) else (if x = 7 then (false) else (true))) = true then (y) else (0))) p 2 (if x = 5 then (z) else (if x = 6 then (z) else (0)))) p 3 (if x = 5 then (u) else (0))) p 4 none) p 5 0) p 6 0) p 7 0) p 8 0) p 9 0) p 10 0) p 11 0) (pc' := 122) i26_119 rfl (x_isP hp w70.1) rfl ?_
    have w72 : HW (sI (sI (sI (sI (sI (sI (sI (sR (sI (sI (sI (sI h p 0 x) p 1 (if (if x = 0 then (false) else (if x = 7 then (false) else (true))) = true then (y) else (0))) p 2 (if x = 5 then (z) else (if x = 6 then (z) else (0)))) p 3 (if x = 5 then (u) else (0))) p 4 none) p 5 0) p 6 0) p 7 0) p 8 0) p 9 0) p 10 0) p 11 0) := HW_sI w70
    refine e_ld (pc' := 123) i26_122 rfl rfl ?_
    refine e_ld (pc' := 124) i26_123 rfl rfl ?_
    refine e_reg (pc' := 132) (ls' := [some (.ref p), some (.int x), some (.int y), some (.int z), some (.int u), some (.null), some (.int (b2i (if x = 0 then (false) else (if x = 7 then (false) else (true)))))]) (st' := [.int (if x = 0 then (0) else (3)), .ref p]) (fun kj61 => ?_) ?_
    · skip
      refine e_if (pc' := 127) i26_124 rfl (fun c62 => ?_) (fun c62 => ?_)
      · have d63 : ¬ (x = 0) := (of_decide_eq_true c62)
        refine e_cn (pc' := 132) i26_131 rfl ?_
        exact (by simp only [if_neg d63] at kj61 ⊢; exact kj61)
      · have d64 : x = 0 := (Decidable.not_not.mp (of_decide_eq_false c62))
        refine e_cn (pc' := 128) i26_127 rfl ?_
        refine e_go i26_128 ?_
        exact (by simp only [if_pos d64] at kj61 ⊢; exact kj61)
    refine e_put (h' := sI (sI (sI (sI (sI (sI (sI (sI (sR (sI (sI (sI (sI h p 0 x) p 1 (if (if x = 0 then (false) else (if x = 7 then (false) else (true))) = true then (y) else (0))) p 2 (if x = 5 then (z) else (if x = 6 then (z) else (0)))) p 3 (if x = 5 then (u) else (0))) p 4 none) p 5 0) p 6 0) p 7 0) p 8 0) p 9 0) p 10 0) p 11 0) p 12 (if x = 0 then (0) else (3))) (pc' := 135) i26_132 rfl (x_isP hp w72.1) rfl ?_
    have w78 : HW (sI (sI (sI (sI (sI (sI (sI (sI (sR (sI (sI (sI (sI h p 0 x) p 1 (if (if x = 0 then (false) else (if x = 7 then (false) else (true))) = true then (y) else (0))) p 2 (if x = 5 then (z) else (if x = 6 then (z) else (0)))) p 3 (if x = 5 then (u) else (0))) p 4 none) p 5 0) p 6 0) p 7 0) p 8 0) p 9 0) p 10 0) p 11 0) p 12 (if x = 0 then (0) else (3))) := HW_sI w72
    refine e_ld (pc' := 136) i26_135 rfl rfl ?_
    refine e_ld (pc' := 137) i26_136 rfl rfl ?_
    refine e_get (w := .int (gI (sI (sI (sI (sI (sI (sI (sI (sI (sR (sI (sI (sI (sI h p 0 x) p 1 (if (if x = 0 then (false) else (if x = 7 then (false) else (true))) = true then (y) else (0))) p 2 (if x = 5 then (z) else (if x = 6 then (z) else (0)))) p 3 (if x = 5 then (u) else (0))) p 4 none) p 5 0) p 6 0) p 7 0) p 8 0) p 9 0) p 10 0) p 11 0) p 12 (if x = 0 then (0) else (3))) p 12)) (pc' := 140) i26_137 rfl (x_isP hp w78.1) rfl ?_
    refine e_put (h' := sI (sI (sI (sI (sI (sI (sI (sI (sI (sR (sI (sI (sI (sI h p 0 x) p 1 (if (if x = 0 then (false) else (if x = 7 then (false) else (true))) = true then (y) else (0))) p 2 (if x = 5 then (z) else (if x = 6 then (z) else (0)))) p 3 (if x = 5 then (u) else (0))) p 4 none) p 5 0) p 6 0) p 7 0) p 8 0) p 9 0) p 10 0) p 11 0) p 12 (if x = 0 then (0) else (3))) p 13 (gI (sI (sI (sI (sI (sI (sI (sI (sI (sR (sI (sI (sI (sI h p 0 x) p 1 (if (if x = 0 then (false) else (if x = 7 then (false) else (true))) = true then (y) else (0))) p 2 (if x = 5 then (z) else (if x = 6 then (z) else (0)))) p 3 (if x = 5 then (u) else (0))) p 4 none) p 5 0) p 6 0) p 7 0) p 8 0) p 9 0) p 10 0) p 11 0) p 12 (if x = 0 then (0) else (3))) p 12)) (pc' := 143) i26_140 rfl (x_isP hp w78.1) rfl ?_
    have w80 : HW (sI (sI (sI (sI (sI (sI (sI (sI (sI (sR (sI (sI (sI (sI h p 0 x) p 1 (if (if x = 0 then (false) else (if x = 7 then (false) else (true))) = true then (y) else (0))) p 2 (if x = 5 then (z) else (if x = 6 then (z) else (0)))) p 3 (if x = 5 then (u) else (0))) p 4 none) p 5 0) p 6 0) p 7 0) p 8 0) p 9 0) p 10 0) p 11 0) p 12 (if x = 0 then (0) else (3))) p 13 (gI (sI (sI (sI (sI (sI (sI (sI (sI (sR (sI (sI (sI (sI h p 0 x) p 1 (if (if x = 0 then (false) else (if x = 7 then (false) else (true))) = true then (y) else (0))) p 2 (if x = 5 then (z) else (if x = 6 then (z) else (0)))) p 3 (if x = 5 then (u) else (0))) p 4 none) p 5 0) p 6 0) p 7 0) p 8 0) p 9 0) p 10 0) p 11 0) p 12 (if x = 0 then (0) else (3))) p 12)) := HW_sI w78
    refine e_ld (pc' := 144) i26_143 rfl rfl ?_
    obtain ⟨h67, s68, H⟩ := H
    have w84q := HW_sp (show x_okm 27 = true by rfl) s68 w80
    have w84 : HW h67 := w84q.1
    refine e_cV (As := [.ref p]) (rest := []) (pc' := 147) i26_144 rfl rfl rfl rfl (by show (Nat.beq (x_kd 27) 0 && x_is p _ (MC 27) 0) = true; rw [show x_kd 27 = 0 by decide +kernel, show MC 27 = 3 by decide +kernel, (x_isP hp w80.1)]; rfl) s68 ?_
    refine e_rt i26_147 rfl ?_
    exact H
set_option maxHeartbeats 8000000 in
set_option maxRecDepth 100000 in
theorem v26 {L : Nat} {xs : Nat → Int32} {Q : Option Value → Hp → Prop} {h : Hp} {p : Nat} {x : Int32} {y : Int32} {z : Int32} {u : Int32} {q : Nat} (hw : HW h) (hp : PT p) (hq : RQ q h.1)
  (H : ((x = 6) → (∃ (h68 : Hp), Sp L xs 27 [.ref p] (sI (sI (sI (sI (sI (sI (sI (sI (sI (sR (sI (sI (sI (sI h p 0 x) p 1 (if (if x = 0 then (false) else (if x = 7 then (false) else (true))) = true then (y) else (0))) p 2 (if x = 5 then (z) else (if x = 6 then (z) else (0)))) p 3 (if x = 5 then (u) else (0))) p 4 (some q)) p 5 0) p 6 0) p 7 0) p 8 0) p 9 0) p 10 0) p 11 0) p 12 (if x = 0 then (0) else (3))) p 13 (gI (sI (sI (sI (sI (sI (sI (sI (sI (sR (sI (sI (sI (sI h p 0 x) p 1 (if (if x = 0 then (false) else (if x = 7 then (false) else (true))) = true then (y) else (0))) p 2 (if x = 5 then (z) else (if x = 6 then (z) else (0)))) p 3 (if x = 5 then (u) else (0))) p 4 (some q)) p 5 0) p 6 0) p 7 0) p 8 0) p 9 0) p 10 0) p 11 0) p 12 (if x = 0 then (0) else (3))) p 12)) none h68 ∧ Q none h68)) ∧ (¬ (x = 6) → (∃ (h49 : Hp), Sp L xs 27 [.ref p] (sI (sI (sI (sI (sI (sI (sI (sI (sI (sR (sI (sI (sI (sI h p 0 x) p 1 (if (if x = 0 then (false) else (if x = 7 then (false) else (true))) = true then (y) else (0))) p 2 (if x = 5 then (z) else (if x = 6 then (z) else (0)))) p 3 (if x = 5 then (u) else (0))) p 4 none) p 5 0) p 6 0) p 7 0) p 8 0) p 9 0) p 10 0) p 11 0) p 12 (if x = 0 then (0) else (3))) p 13 (gI (sI (sI (sI (sI (sI (sI (sI (sI (sR (sI (sI (sI (sI h p 0 x) p 1 (if (if x = 0 then (false) else (if x = 7 then (false) else (true))) = true then (y) else (0))) p 2 (if x = 5 then (z) else (if x = 6 then (z) else (0)))) p 3 (if x = 5 then (u) else (0))) p 4 none) p 5 0) p 6 0) p 7 0) p 8 0) p 9 0) p 10 0) p 11 0) p 12 (if x = 0 then (0) else (3))) p 12)) none h49 ∧ Q none h49))) : ∃ r h', Sp L xs 26 [.ref p, .int x, .int y, .int z, .int u, .ref q] h r h' ∧ Q r h' := by
  refine sp_ex (ls := [some (.ref p), some (.int x), some (.int y), some (.int z), some (.int u), some (.ref q), none]) rfl ?_
  refine e_ld (pc' := 1) i26_0 rfl rfl ?_
  refine e_reg (pc' := 15) (ls' := [some (.ref p), some (.int x), some (.int y), some (.int z), some (.int u), some (.ref q), none]) (st' := [.int (b2i (if x = 0 then (false) else (if x = 7 then (false) else (true))))]) (fun kj1 => ?_) ?_
  · skip
    refine e_if (pc' := 4) i26_1 rfl (fun c2 => ?_) (fun c2 => ?_)
    · have d3 : x = 0 := (of_decide_eq_true c2)
      refine e_cn (pc' := 15) i26_14 rfl ?_
      exact (by simp only [if_pos d3] at kj1 ⊢; exact kj1)
    · have d4 : ¬ (x = 0) := (of_decide_eq_false c2)
      refine e_ld (pc' := 5) i26_4 rfl rfl ?_
      refine e_cn (pc' := 7) i26_5 rfl ?_
      refine e_reg (pc' := 15) (ls' := [some (.ref p), some (.int x), some (.int y), some (.int z), some (.int u), some (.ref q), none]) (st' := [.int (b2i (if x = 7 then (false) else (true)))]) (fun kj5 => ?_) ?_
      · skip
        refine e_ic (pc' := 10) i26_7 rfl (fun c6 => ?_) (fun c6 => ?_)
        · have d7 : x = 7 := (of_decide_eq_true c6)
          refine e_cn (pc' := 15) i26_14 rfl ?_
          exact (by simp only [if_pos d7] at kj5 ⊢; exact kj5)
        · have d8 : ¬ (x = 7) := (of_decide_eq_false c6)
          refine e_cn (pc' := 11) i26_10 rfl ?_
          refine e_go i26_11 ?_
          exact (by simp only [if_neg d8] at kj5 ⊢; exact kj5)
      exact (by simp only [if_neg d4] at kj1 ⊢; exact kj1)
  refine e_st (ls' := [some (.ref p), some (.int x), some (.int y), some (.int z), some (.int u), some (.ref q), some (.int (b2i (if x = 0 then (false) else (if x = 7 then (false) else (true)))))]) (pc' := 17) i26_15 rfl rfl rfl ?_
  refine e_ld (pc' := 18) i26_17 rfl rfl ?_
  refine e_ld (pc' := 19) i26_18 rfl rfl ?_
  refine e_put (h' := sI h p 0 x) (pc' := 22) i26_19 rfl (x_isP hp hw.1) rfl ?_
  have w10 : HW (sI h p 0 x) := HW_sI hw
  refine e_ld (pc' := 23) i26_22 rfl rfl ?_
  refine e_ld (pc' := 25) i26_23 rfl rfl ?_
  refine e_reg (pc' := 33) (ls' := [some (.ref p), some (.int x), some (.int y), some (.int z), some (.int u), some (.ref q), some (.int (b2i (if x = 0 then (false) else (if x = 7 then (false) else (true)))))]) (st' := [.int (if (if x = 0 then (false) else (if x = 7 then (false) else (true))) = true then (y) else (0)), .ref p]) (fun kj10 => ?_) ?_
  · skip
    refine e_b0 (pc' := 28) i26_25 rfl (fun c11 => ?_) (fun c11 => ?_)
    · have d12 : ¬ ((if x = 0 then (false) else (if x = 7 then (false) else (true))) = true) := (show ¬ (if x = 0 then (false) else (if x = 7 then (false) else (true))) = true by rw [c11]; decide)
      refine e_cn (pc' := 33) i26_32 rfl ?_
      exact (by simp only [if_neg d12] at kj10 ⊢; exact kj10)
    · have d13 : (if x = 0 then (false) else (if x = 7 then (false) else (true))) = true := c11
      refine e_ld (pc' := 29) i26_28 rfl rfl ?_
      refine e_go i26_29 ?_
      exact (by simp only [if_pos d13] at kj10 ⊢; exact kj10)
  refine e_put (h' := sI (sI h p 0 x) p 1 (if (if x = 0 then (false) else (if x = 7 then (false) else (true))) = true then (y) else (0))) (pc' := 36) i26_33 rfl (x_isP hp w10.1) rfl ?_
  have w16 : HW (sI (sI h p 0 x) p 1 (if (if x = 0 then (false) else (if x = 7 then (false) else (true))) = true then (y) else (0))) := HW_sI w10
  refine e_ld (pc' := 37) i26_36 rfl rfl ?_
  refine e_ld (pc' := 38) i26_37 rfl rfl ?_
  refine e_cn (pc' := 39) i26_38 rfl ?_
  refine e_reg (pc' := 53) (ls' := [some (.ref p), some (.int x), some (.int y), some (.int z), some (.int u), some (.ref q), some (.int (b2i (if x = 0 then (false) else (if x = 7 then (false) else (true)))))]) (st' := [.int (if x = 5 then (z) else (if x = 6 then (z) else (0))), .ref p]) (fun kj15 => ?_) ?_
  · skip
    refine e_ic (pc' := 42) i26_39 rfl (fun c16 => ?_) (fun c16 => ?_)
    · have d17 : x = 5 := (of_decide_eq_true c16)
      refine e_ld (pc' := 49) i26_48 rfl rfl ?_
      refine e_go i26_49 ?_
      exact (by simp only [if_pos d17] at kj15 ⊢; exact kj15)
    · have d18 : ¬ (x = 5) := (of_decide_eq_false c16)
      refine e_ld (pc' := 43) i26_42 rfl rfl ?_
      refine e_cn (pc' := 45) i26_43 rfl ?_
      refine e_reg (pc' := 53) (ls' := [some (.ref p), some (.int x), some (.int y), some (.int z), some (.int u), some (.ref q), some (.int (b2i (if x = 0 then (false) else (if x = 7 then (false) else (true)))))]) (st' := [.int (if x = 6 then (z) else (0)), .ref p]) (fun kj19 => ?_) ?_
      · skip
        refine e_ic (pc' := 48) i26_45 rfl (fun c20 => ?_) (fun c20 => ?_)
        · have d21 : ¬ (x = 6) := (of_decide_eq_true c20)
          refine e_cn (pc' := 53) i26_52 rfl ?_
          exact (by simp only [if_neg d21] at kj19 ⊢; exact kj19)
        · have d22 : x = 6 := (Decidable.not_not.mp (of_decide_eq_false c20))
          refine e_ld (pc' := 49) i26_48 rfl rfl ?_
          refine e_go i26_49 ?_
          exact (by simp only [if_pos d22] at kj19 ⊢; exact kj19)
      exact (by simp only [if_neg d18] at kj15 ⊢; exact kj15)
  refine e_put (h' := sI (sI (sI h p 0 x) p 1 (if (if x = 0 then (false) else (if x = 7 then (false) else (true))) = true then (y) else (0))) p 2 (if x = 5 then (z) else (if x = 6 then (z) else (0)))) (pc' := 56) i26_53 rfl (x_isP hp w16.1) rfl ?_
  have w26 : HW (sI (sI (sI h p 0 x) p 1 (if (if x = 0 then (false) else (if x = 7 then (false) else (true))) = true then (y) else (0))) p 2 (if x = 5 then (z) else (if x = 6 then (z) else (0)))) := HW_sI w16
  refine e_ld (pc' := 57) i26_56 rfl rfl ?_
  refine e_ld (pc' := 58) i26_57 rfl rfl ?_
  refine e_cn (pc' := 59) i26_58 rfl ?_
  refine e_reg (pc' := 68) (ls' := [some (.ref p), some (.int x), some (.int y), some (.int z), some (.int u), some (.ref q), some (.int (b2i (if x = 0 then (false) else (if x = 7 then (false) else (true)))))]) (st' := [.int (if x = 5 then (u) else (0)), .ref p]) (fun kj24 => ?_) ?_
  · skip
    refine e_ic (pc' := 62) i26_59 rfl (fun c25 => ?_) (fun c25 => ?_)
    · have d26 : ¬ (x = 5) := (of_decide_eq_true c25)
      refine e_cn (pc' := 68) i26_67 rfl ?_
      exact (by simp only [if_neg d26] at kj24 ⊢; exact kj24)
    · have d27 : x = 5 := (Decidable.not_not.mp (of_decide_eq_false c25))
      refine e_ld (pc' := 64) i26_62 rfl rfl ?_
      refine e_go i26_64 ?_
      exact (by simp only [if_pos d27] at kj24 ⊢; exact kj24)
  refine e_put (h' := sI (sI (sI (sI h p 0 x) p 1 (if (if x = 0 then (false) else (if x = 7 then (false) else (true))) = true then (y) else (0))) p 2 (if x = 5 then (z) else (if x = 6 then (z) else (0)))) p 3 (if x = 5 then (u) else (0))) (pc' := 71) i26_68 rfl (x_isP hp w26.1) rfl ?_
  have w32 : HW (sI (sI (sI (sI h p 0 x) p 1 (if (if x = 0 then (false) else (if x = 7 then (false) else (true))) = true then (y) else (0))) p 2 (if x = 5 then (z) else (if x = 6 then (z) else (0)))) p 3 (if x = 5 then (u) else (0))) := HW_sI w26
  refine e_ld (pc' := 72) i26_71 rfl rfl ?_
  refine e_ld (pc' := 73) i26_72 rfl rfl ?_
  refine e_cn (pc' := 75) i26_73 rfl ?_
  refine e_ic (pc' := 78) i26_75 rfl (fun c33 => ?_) (fun c33 => ?_)
  · have d34 : ¬ (x = 6) := (of_decide_eq_true c33)
    replace H := H.2 d34
    refine e_cn (pc' := 84) i26_83 rfl ?_
    refine e_put (h' := sR (sI (sI (sI (sI h p 0 x) p 1 (if (if x = 0 then (false) else (if x = 7 then (false) else (true))) = true then (y) else (0))) p 2 (if x = 5 then (z) else (if x = 6 then (z) else (0)))) p 3 (if x = 5 then (u) else (0))) p 4 none) (pc' := 87) i26_84 rfl (x_isP hp w32.1) rfl ?_
    have w40 : HW (sR (sI (sI (sI (sI h p 0 x) p 1 (if (if x = 0 then (false) else (if x = 7 then (false) else (true))) = true then (y) else (0))) p 2 (if x = 5 then (z) else (if x = 6 then (z) else (0)))) p 3 (if x = 5 then (u) else (0))) p 4 none) := HW_sRp hp w32
    refine e_ld (pc' := 88) i26_87 rfl rfl ?_
    refine e_cn (pc' := 89) i26_88 rfl ?_
    refine e_put (h' := sI (sR (sI (sI (sI (sI h p 0 x) p 1 (if (if x = 0 then (false) else (if x = 7 then (false) else (true))) = true then (y) else (0))) p 2 (if x = 5 then (z) else (if x = 6 then (z) else (0)))) p 3 (if x = 5 then (u) else (0))) p 4 none) p 5 0) (pc' := 92) i26_89 rfl (x_isP hp w40.1) rfl ?_
    have w42 : HW (sI (sR (sI (sI (sI (sI h p 0 x) p 1 (if (if x = 0 then (false) else (if x = 7 then (false) else (true))) = true then (y) else (0))) p 2 (if x = 5 then (z) else (if x = 6 then (z) else (0)))) p 3 (if x = 5 then (u) else (0))) p 4 none) p 5 0) := HW_sI w40
    refine e_ld (pc' := 93) i26_92 rfl rfl ?_
    refine e_cn (pc' := 94) i26_93 rfl ?_
    refine e_put (h' := sI (sI (sR (sI (sI (sI (sI h p 0 x) p 1 (if (if x = 0 then (false) else (if x = 7 then (false) else (true))) = true then (y) else (0))) p 2 (if x = 5 then (z) else (if x = 6 then (z) else (0)))) p 3 (if x = 5 then (u) else (0))) p 4 none) p 5 0) p 6 0) (pc' := 97) i26_94 rfl (x_isP hp w42.1) rfl ?_
    have w44 : HW (sI (sI (sR (sI (sI (sI (sI h p 0 x) p 1 (if (if x = 0 then (false) else (if x = 7 then (false) else (true))) = true then (y) else (0))) p 2 (if x = 5 then (z) else (if x = 6 then (z) else (0)))) p 3 (if x = 5 then (u) else (0))) p 4 none) p 5 0) p 6 0) := HW_sI w42
    refine e_ld (pc' := 98) i26_97 rfl rfl ?_
    refine e_cn (pc' := 99) i26_98 rfl ?_
    refine e_put (h' := sI (sI (sI (sR (sI (sI (sI (sI h p 0 x) p 1 (if (if x = 0 then (false) else (if x = 7 then (false) else (true))) = true then (y) else (0))) p 2 (if x = 5 then (z) else (if x = 6 then (z) else (0)))) p 3 (if x = 5 then (u) else (0))) p 4 none) p 5 0) p 6 0) p 7 0) (pc' := 102) i26_99 rfl (x_isP hp w44.1) rfl ?_
    have w46 : HW (sI (sI (sI (sR (sI (sI (sI (sI h p 0 x) p 1 (if (if x = 0 then (false) else (if x = 7 then (false) else (true))) = true then (y) else (0))) p 2 (if x = 5 then (z) else (if x = 6 then (z) else (0)))) p 3 (if x = 5 then (u) else (0))) p 4 none) p 5 0) p 6 0) p 7 0) := HW_sI w44
    refine e_ld (pc' := 103) i26_102 rfl rfl ?_
    refine e_cn (pc' := 104) i26_103 rfl ?_
    refine e_put (h' := sI (sI (sI (sI (sR (sI (sI (sI (sI h p 0 x) p 1 (if (if x = 0 then (false) else (if x = 7 then (false) else (true))) = true then (y) else (0))) p 2 (if x = 5 then (z) else (if x = 6 then (z) else (0)))) p 3 (if x = 5 then (u) else (0))) p 4 none) p 5 0) p 6 0) p 7 0) p 8 0) (pc' := 107) i26_104 rfl (x_isP hp w46.1) rfl ?_
    have w48 : HW (sI (sI (sI (sI (sR (sI (sI (sI (sI h p 0 x) p 1 (if (if x = 0 then (false) else (if x = 7 then (false) else (true))) = true then (y) else (0))) p 2 (if x = 5 then (z) else (if x = 6 then (z) else (0)))) p 3 (if x = 5 then (u) else (0))) p 4 none) p 5 0) p 6 0) p 7 0) p 8 0) := HW_sI w46
    refine e_ld (pc' := 108) i26_107 rfl rfl ?_
    refine e_cn (pc' := 109) i26_108 rfl ?_
    refine e_put (h' := sI (sI (sI (sI (sI (sR (sI (sI (sI (sI h p 0 x) p 1 (if (if x = 0 then (false) else (if x = 7 then (false) else (true))) = true then (y) else (0))) p 2 (if x = 5 then (z) else (if x = 6 then (z) else (0)))) p 3 (if x = 5 then (u) else (0))) p 4 none) p 5 0) p 6 0) p 7 0) p 8 0) p 9 0) (pc' := 112) i26_109 rfl (x_isP hp w48.1) rfl ?_
    have w50 : HW (sI (sI (sI (sI (sI (sR (sI (sI (sI (sI h p 0 x) p 1 (if (if x = 0 then (false) else (if x = 7 then (false) else (true))) = true then (y) else (0))) p 2 (if x = 5 then (z) else (if x = 6 then (z) else (0)))) p 3 (if x = 5 then (u) else (0))) p 4 none) p 5 0) p 6 0) p 7 0) p 8 0) p 9 0) := HW_sI w48
    refine e_ld (pc' := 113) i26_112 rfl rfl ?_
    refine e_cn (pc' := 114) i26_113 rfl ?_
    refine e_put (h' := sI (sI (sI (sI (sI (sI (sR (sI (sI (sI (sI h p 0 x) p 1 (if (if x = 0 then (false) else (if x = 7 then (false) else (true))) = true then (y) else (0))) p 2 (if x = 5 then (z) else (if x = 6 then (z) else (0)))) p 3 (if x = 5 then (u) else (0))) p 4 none) p 5 0) p 6 0) p 7 0) p 8 0) p 9 0) p 10 0) (pc' := 117) i26_114 rfl (x_isP hp w50.1) rfl ?_
    have w52 : HW (sI (sI (sI (sI (sI (sI (sR (sI (sI (sI (sI h p 0 x) p 1 (if (if x = 0 then (false) else (if x = 7 then (false) else (true))) = true then (y) else (0))) p 2 (if x = 5 then (z) else (if x = 6 then (z) else (0)))) p 3 (if x = 5 then (u) else (0))) p 4 none) p 5 0) p 6 0) p 7 0) p 8 0) p 9 0) p 10 0) := HW_sI w50
    refine e_ld (pc' := 118) i26_117 rfl rfl ?_
    refine e_cn (pc' := 119) i26_118 rfl ?_
    refine e_put (h' := sI (sI (sI (sI (sI (sI (sI (sR (sI (sI (sI (sI h p 0 x) p 1 (if (if x = 0 then (false) else (if x = 7 then (false) else (true))) = true then (y) else (0))) p 2 (if x = 5 then (z) else (if x = 6 then (z) else (0)))) p 3 (if x = 5 then (u) else (0))) p 4 none) p 5 0) p 6 0) p 7 0) p 8 0) p 9 0) p 10 0) p 11 0) (pc' := 122) i26_119 rfl (x_isP hp w52.1) rfl ?_
    have w54 : HW (sI (sI (sI (sI (sI (sI (sI (sR (sI (sI (sI (sI h p 0 x) p 1 (if (if x = 0 then (false) else (if x = 7 then (false) else (true))) = true then (y) else (0))) p 2 (if x = 5 then (z) else (if x = 6 then (z) else (0)))) p 3 (if x = 5 then (u) else (0))) p 4 none) p 5 0) p 6 0) p 7 0) p 8 0) p 9 0) p 10 0) p 11 0) := HW_sI w52
    refine e_ld (pc' := 123) i26_122 rfl rfl ?_
    refine e_ld (pc' := 124) i26_123 rfl rfl ?_
    refine e_reg (pc' := 132) (ls' := [some (.ref p), some (.int x), some (.int y), some (.int z), some (.int u), some (.ref q), some (.int (b2i (if x = 0 then (false) else (if x = 7 then (false) else (true)))))]) (st' := [.int (if x = 0 then (0) else (3)), .ref p]) (fun kj43 => ?_) ?_
    · skip
      refine e_if (pc' := 127) i26_124 rfl (fun c44 => ?_) (fun c44 => ?_)
      · have d45 : ¬ (x = 0) := (of_decide_eq_true c44)
        refine e_cn (pc' := 132) i26_131 rfl ?_
        exact (by simp only [if_neg d45] at kj43 ⊢; exact kj43)
      · have d46 : x = 0 := (Decidable.not_not.mp (of_decide_eq_false c44))
        refine e_cn (pc' := 128) i26_127 rfl ?_
        refine e_go i26_128 ?_
        exact (by simp only [if_pos d46] at kj43 ⊢; exact kj43)
    refine e_put (h' := sI (sI (sI (sI (sI (sI (sI (sI (sR (sI (sI (sI (sI h p 0 x) p 1 (if (if x = 0 then (false) else (if x = 7 then (false) else (true))) = true then (y) else (0))) p 2 (if x = 5 then (z) else (if x = 6 then (z) else (0)))) p 3 (if x = 5 then (u) else (0))) p 4 none) p 5 0) p 6 0) p 7 0) p 8 0) p 9 0) p 10 0) p 11 0) p 12 (if x = 0 then (0) else (3))) (pc' := 135) i26_132 rfl (x_isP hp w54.1) rfl ?_
    have w60 : HW (sI (sI (sI (sI (sI (sI (sI (sI (sR (sI (sI (sI (sI h p 0 x) p 1 (if (if x = 0 then (false) else (if x = 7 then (false) else (true))) = true then (y) else (0))) p 2 (if x = 5 then (z) else (if x = 6 then (z) else (0)))) p 3 (if x = 5 then (u) else (0))) p 4 none) p 5 0) p 6 0) p 7 0) p 8 0) p 9 0) p 10 0) p 11 0) p 12 (if x = 0 then (0) else (3))) := HW_sI w54
    refine e_ld (pc' := 136) i26_135 rfl rfl ?_
    refine e_ld (pc' := 137) i26_136 rfl rfl ?_
    refine e_get (w := .int (gI (sI (sI (sI (sI (sI (sI (sI (sI (sR (sI (sI (sI (sI h p 0 x) p 1 (if (if x = 0 then (false) else (if x = 7 then (false) else (true))) = true then (y) else (0))) p 2 (if x = 5 then (z) else (if x = 6 then (z) else (0)))) p 3 (if x = 5 then (u) else (0))) p 4 none) p 5 0) p 6 0) p 7 0) p 8 0) p 9 0) p 10 0) p 11 0) p 12 (if x = 0 then (0) else (3))) p 12)) (pc' := 140) i26_137 rfl (x_isP hp w60.1) rfl ?_
    refine e_put (h' := sI (sI (sI (sI (sI (sI (sI (sI (sI (sR (sI (sI (sI (sI h p 0 x) p 1 (if (if x = 0 then (false) else (if x = 7 then (false) else (true))) = true then (y) else (0))) p 2 (if x = 5 then (z) else (if x = 6 then (z) else (0)))) p 3 (if x = 5 then (u) else (0))) p 4 none) p 5 0) p 6 0) p 7 0) p 8 0) p 9 0) p 10 0) p 11 0) p 12 (if x = 0 then (0) else (3))) p 13 (gI (sI (sI (sI (sI (sI (sI (sI (sI (sR (sI (sI (sI (sI h p 0 x) p 1 (if (if x = 0 then (false) else (if x = 7 then (false) else (true))) = true then (y) else (0))) p 2 (if x = 5 then (z) else (if x = 6 then (z) else (0)))) p 3 (if x = 5 then (u) else (0))) p 4 none) p 5 0) p 6 0) p 7 0) p 8 0) p 9 0) p 10 0) p 11 0) p 12 (if x = 0 then (0) else (3))) p 12)) (pc' := 143) i26_140 rfl (x_isP hp w60.1) rfl ?_
    have w62 : HW (sI (sI (sI (sI (sI (sI (sI (sI (sI (sR (sI (sI (sI (sI h p 0 x) p 1 (if (if x = 0 then (false) else (if x = 7 then (false) else (true))) = true then (y) else (0))) p 2 (if x = 5 then (z) else (if x = 6 then (z) else (0)))) p 3 (if x = 5 then (u) else (0))) p 4 none) p 5 0) p 6 0) p 7 0) p 8 0) p 9 0) p 10 0) p 11 0) p 12 (if x = 0 then (0) else (3))) p 13 (gI (sI (sI (sI (sI (sI (sI (sI (sI (sR (sI (sI (sI (sI h p 0 x) p 1 (if (if x = 0 then (false) else (if x = 7 then (false) else (true))) = true then (y) else (0))) p 2 (if x = 5 then (z) else (if x = 6 then (z) else (0)))) p 3 (if x = 5 then (u) else (0))) p 4 none) p 5 0) p 6 0) p 7 0) p 8 0) p 9 0) p 10 0) p 11 0) p 12 (if x = 0 then (0) else (3))) p 12)) := HW_sI w60
    refine e_ld (pc' := 144) i26_143 rfl rfl ?_
    obtain ⟨h49, s50, H⟩ := H
    have w66q := HW_sp (show x_okm 27 = true by rfl) s50 w62
    have w66 : HW h49 := w66q.1
    have rq52 : RQ q h49.1 := by rw [w66q.2]; exact hq
    refine e_cV (As := [.ref p]) (rest := []) (pc' := 147) i26_144 rfl rfl rfl rfl (by show (Nat.beq (x_kd 27) 0 && x_is p _ (MC 27) 0) = true; rw [show x_kd 27 = 0 by decide +kernel, show MC 27 = 3 by decide +kernel, (x_isP hp w62.1)]; rfl) s50 ?_
    refine e_rt i26_147 rfl ?_
    exact H
  · have d53 : x = 6 := (Decidable.not_not.mp (of_decide_eq_false c33))
    replace H := H.1 d53
    refine e_ld (pc' := 80) i26_78 rfl rfl ?_
    refine e_go i26_80 ?_
    refine e_put (h' := sR (sI (sI (sI (sI h p 0 x) p 1 (if (if x = 0 then (false) else (if x = 7 then (false) else (true))) = true then (y) else (0))) p 2 (if x = 5 then (z) else (if x = 6 then (z) else (0)))) p 3 (if x = 5 then (u) else (0))) p 4 (some q)) (pc' := 87) i26_84 rfl (x_isP hp w32.1) rfl ?_
    have w59 : HW (sR (sI (sI (sI (sI h p 0 x) p 1 (if (if x = 0 then (false) else (if x = 7 then (false) else (true))) = true then (y) else (0))) p 2 (if x = 5 then (z) else (if x = 6 then (z) else (0)))) p 3 (if x = 5 then (u) else (0))) p 4 (some q)) := HW_sRp hp w32
    refine e_ld (pc' := 88) i26_87 rfl rfl ?_
    refine e_cn (pc' := 89) i26_88 rfl ?_
    refine e_put (h' := sI (sR (sI (sI (sI (sI h p 0 x) p 1 (if (if x = 0 then (false) else (if x = 7 then (false) else (true))) = true then (y) else (0))) p 2 (if x = 5 then (z) else (if x = 6 then (z) else (0)))) p 3 (if x = 5 then (u) else (0))) p 4 (some q)) p 5 0) (pc' := 92) i26_89 rfl (x_isP hp w59.1) rfl ?_
    have w61 : HW (sI (sR (sI (sI (sI (sI h p 0 x) p 1 (if (if x = 0 then (false) else (if x = 7 then (false) else (true))) = true then (y) else (0))) p 2 (if x = 5 then (z) else (if x = 6 then (z) else (0)))) p 3 (if x = 5 then (u) else (0))) p 4 (some q)) p 5 0) := HW_sI w59
    refine e_ld (pc' := 93) i26_92 rfl rfl ?_
    refine e_cn (pc' := 94) i26_93 rfl ?_
    refine e_put (h' := sI (sI (sR (sI (sI (sI (sI h p 0 x) p 1 (if (if x = 0 then (false) else (if x = 7 then (false) else (true))) = true then (y) else (0))) p 2 (if x = 5 then (z) else (if x = 6 then (z) else (0)))) p 3 (if x = 5 then (u) else (0))) p 4 (some q)) p 5 0) p 6 0) (pc' := 97) i26_94 rfl (x_isP hp w61.1) rfl ?_
    have w63 : HW (sI (sI (sR (sI (sI (sI (sI h p 0 x) p 1 (if (if x = 0 then (false) else (if x = 7 then (false) else (true))) = true then (y) else (0))) p 2 (if x = 5 then (z) else (if x = 6 then (z) else (0)))) p 3 (if x = 5 then (u) else (0))) p 4 (some q)) p 5 0) p 6 0) := HW_sI w61
    refine e_ld (pc' := 98) i26_97 rfl rfl ?_
    refine e_cn (pc' := 99) i26_98 rfl ?_
    refine e_put (h' := sI (sI (sI (sR (sI (sI (sI (sI h p 0 x) p 1 (if (if x = 0 then (false) else (if x = 7 then (false) else (true))) = true then (y) else (0))) p 2 (if x = 5 then (z) else (if x = 6 then (z) else (0)))) p 3 (if x = 5 then (u) else (0))) p 4 (some q)) p 5 0) p 6 0) p 7 0) (pc' := 102) i26_99 rfl (x_isP hp w63.1) rfl ?_
    have w65 : HW (sI (sI (sI (sR (sI (sI (sI (sI h p 0 x) p 1 (if (if x = 0 then (false) else (if x = 7 then (false) else (true))) = true then (y) else (0))) p 2 (if x = 5 then (z) else (if x = 6 then (z) else (0)))) p 3 (if x = 5 then (u) else (0))) p 4 (some q)) p 5 0) p 6 0) p 7 0) := HW_sI w63
    refine e_ld (pc' := 103) i26_102 rfl rfl ?_
    refine e_cn (pc' := 104) i26_103 rfl ?_
    refine e_put (h' := sI (sI (sI (sI (sR (sI (sI (sI (sI h p 0 x) p 1 (if (if x = 0 then (false) else (if x = 7 then (false) else (true))) = true then (y) else (0))) p 2 (if x = 5 then (z) else (if x = 6 then (z) else (0)))) p 3 (if x = 5 then (u) else (0))) p 4 (some q)) p 5 0) p 6 0) p 7 0) p 8 0) (pc' := 107) i26_104 rfl (x_isP hp w65.1) rfl ?_
    have w67 : HW (sI (sI (sI (sI (sR (sI (sI (sI (sI h p 0 x) p 1 (if (if x = 0 then (false) else (if x = 7 then (false) else (true))) = true then (y) else (0))) p 2 (if x = 5 then (z) else (if x = 6 then (z) else (0)))) p 3 (if x = 5 then (u) else (0))) p 4 (some q)) p 5 0) p 6 0) p 7 0) p 8 0) := HW_sI w65
    refine e_ld (pc' := 108) i26_107 rfl rfl ?_
    refine e_cn (pc' := 109) i26_108 rfl ?_
    refine e_put (h' := sI (sI (sI (sI (sI (sR (sI (sI (sI (sI h p 0 x) p 1 (if (if x = 0 then (false) else (if x = 7 then (false) else (true))) = true then (y) else (0))) p 2 (if x = 5 then (z) else (if x = 6 then (z) else (0)))) p 3 (if x = 5 then (u) else (0))) p 4 (some q)) p 5 0) p 6 0) p 7 0) p 8 0) p 9 0) (pc' := 112) i26_109 rfl (x_isP hp w67.1) rfl ?_
    have w69 : HW (sI (sI (sI (sI (sI (sR (sI (sI (sI (sI h p 0 x) p 1 (if (if x = 0 then (false) else (if x = 7 then (false) else (true))) = true then (y) else (0))) p 2 (if x = 5 then (z) else (if x = 6 then (z) else (0)))) p 3 (if x = 5 then (u) else (0))) p 4 (some q)) p 5 0) p 6 0) p 7 0) p 8 0) p 9 0) := HW_sI w67
    refine e_ld (pc' := 113) i26_112 rfl rfl ?_
    refine e_cn (pc' := 114) i26_113 rfl ?_
    refine e_put (h' := sI (sI (sI (sI (sI (sI (sR (sI (sI (sI (sI h p 0 x) p 1 (if (if x = 0 then (false) else (if x = 7 then (false) else (true))) = true then (y) else (0))) p 2 (if x = 5 then (z) else (if x = 6 then (z) else (0)))) p 3 (if x = 5 then (u) else (0))) p 4 (some q)) p 5 0) p 6 0) p 7 0) p 8 0) p 9 0) p 10 0) (pc' := 117) i26_114 rfl (x_isP hp w69.1) rfl ?_
    have w71 : HW (sI (sI (sI (sI (sI (sI (sR (sI (sI (sI (sI h p 0 x) p 1 (if (if x = 0 then (false) else (if x = 7 then (false) else (true))) = true then (y) else (0))) p 2 (if x = 5 then (z) else (if x = 6 then (z) else (0)))) p 3 (if x = 5 then (u) else (0))) p 4 (some q)) p 5 0) p 6 0) p 7 0) p 8 0) p 9 0) p 10 0) := HW_sI w69
    refine e_ld (pc' := 118) i26_117 rfl rfl ?_
    refine e_cn (pc' := 119) i26_118 rfl ?_
    refine e_put (h' := sI (sI (sI (sI (sI (sI (sI (sR (sI (sI (sI (sI h p 0 x) p 1 (if (if x = 0 then (false) else (if x = 7 then (false) else (true))) = true then (y) else (0))) p 2 (if x = 5 then (z) else (if x = 6 then (z) else (0)))) p 3 (if x = 5 then (u) else (0))) p 4 (some q)) p 5 0) p 6 0) p 7 0) p 8 0) p 9 0) p 10 0) p 11 0) (pc' := 122) i26_119 rfl (x_isP hp w71.1) rfl ?_
    have w73 : HW (sI (sI (sI (sI (sI (sI (sI (sR (sI (sI (sI (sI h p 0 x) p 1 (if (if x = 0 then (false) else (if x = 7 then (false) else (true))) = true then (y) else (0))) p 2 (if x = 5 then (z) else (if x = 6 then (z) else (0)))) p 3 (if x = 5 then (u) else (0))) p 4 (some q)) p 5 0) p 6 0) p 7 0) p 8 0) p 9 0) p 10 0) p 11 0) := HW_sI w71
    refine e_ld (pc' := 123) i26_122 rfl rfl ?_
    refine e_ld (pc' := 124) i26_123 rfl rfl ?_
    refine e_reg (pc' := 132) (ls' := [some (.ref p), some (.int x), some (.int y), some (.int z), some (.int u), some (.ref q), some (.int (b2i (if x = 0 then (false) else (if x = 7 then (false) else (true)))))]) (st' := [.int (if x = 0 then (0) else (3)), .ref p]) (fun kj62 => ?_) ?_
    · skip
      refine e_if (pc' := 127) i26_124 rfl (fun c63 => ?_) (fun c63 => ?_)
      · have d64 : ¬ (x = 0) := (of_decide_eq_true c63)
        refine e_cn (pc' := 132) i26_131 rfl ?_
        exact (by simp only [if_neg d64] at kj62 ⊢; exact kj62)
      · have d65 : x = 0 := (Decidable.not_not.mp (of_decide_eq_false c63))
        refine e_cn (pc' := 128) i26_127 rfl ?_
        refine e_go i26_128 ?_
        exact (by simp only [if_pos d65] at kj62 ⊢; exact kj62)
    refine e_put (h' := sI (sI (sI (sI (sI (sI (sI (sI (sR (sI (sI (sI (sI h p 0 x) p 1 (if (if x = 0 then (false) else (if x = 7 then (false) else (true))) = true then (y) else (0))) p 2 (if x = 5 then (z) else (if x = 6 then (z) else (0)))) p 3 (if x = 5 then (u) else (0))) p 4 (some q)) p 5 0) p 6 0) p 7 0) p 8 0) p 9 0) p 10 0) p 11 0) p 12 (if x = 0 then (0) else (3))) (pc' := 135) i26_132 rfl (x_isP hp w73.1) rfl ?_
    have w79 : HW (sI (sI (sI (sI (sI (sI (sI (sI (sR (sI (sI (sI (sI h p 0 x) p 1 (if (if x = 0 then (false) else (if x = 7 then (false) else (true))) = true then (y) else (0))) p 2 (if x = 5 then (z) else (if x = 6 then (z) else (0)))) p 3 (if x = 5 then (u) else (0))) p 4 (some q)) p 5 0) p 6 0) p 7 0) p 8 0) p 9 0) p 10 0) p 11 0) p 12 (if x = 0 then (0) else (3))) := HW_sI w73
    refine e_ld (pc' := 136) i26_135 rfl rfl ?_
    refine e_ld (pc' := 137) i26_136 rfl rfl ?_
    refine e_get (w := .int (gI (sI (sI (sI (sI (sI (sI (sI (sI (sR (sI (sI (sI (sI h p 0 x) p 1 (if (if x = 0 then (false) else (if x = 7 then (false) else (true))) = true then (y) else (0))) p 2 (if x = 5 then (z) else (if x = 6 then (z) else (0)))) p 3 (if x = 5 then (u) else (0))) p 4 (some q)) p 5 0) p 6 0) p 7 0) p 8 0) p 9 0) p 10 0) p 11 0) p 12 (if x = 0 then (0) else (3))) p 12)) (pc' := 140) i26_137 rfl (x_isP hp w79.1) rfl ?_
    refine e_put (h' := sI (sI (sI (sI (sI (sI (sI (sI (sI (sR (sI (sI (sI (sI h p 0 x) p 1 (if (if x = 0 then (false) else (if x = 7 then (false) else (true))) = true then (y) else (0))) p 2 (if x = 5 then (z) else (if x = 6 then (z) else (0)))) p 3 (if x = 5 then (u) else (0))) p 4 (some q)) p 5 0) p 6 0) p 7 0) p 8 0) p 9 0) p 10 0) p 11 0) p 12 (if x = 0 then (0) else (3))) p 13 (gI (sI (sI (sI (sI (sI (sI (sI (sI (sR (sI (sI (sI (sI h p 0 x) p 1 (if (if x = 0 then (false) else (if x = 7 then (false) else (true))) = true then (y) else (0))) p 2 (if x = 5 then (z) else (if x = 6 then (z) else (0)))) p 3 (if x = 5 then (u) else (0))) p 4 (some q)) p 5 0) p 6 0) p 7 0) p 8 0) p 9 0) p 10 0) p 11 0) p 12 (if x = 0 then (0) else (3))) p 12)) (pc' := 143) i26_140 rfl (x_isP hp w79.1) rfl ?_
    have w81 : HW (sI (sI (sI (sI (sI (sI (sI (sI (sI (sR (sI (sI (sI (sI h p 0 x) p 1 (if (if x = 0 then (false) else (if x = 7 then (false) else (true))) = true then (y) else (0))) p 2 (if x = 5 then (z) else (if x = 6 then (z) else (0)))) p 3 (if x = 5 then (u) else (0))) p 4 (some q)) p 5 0) p 6 0) p 7 0) p 8 0) p 9 0) p 10 0) p 11 0) p 12 (if x = 0 then (0) else (3))) p 13 (gI (sI (sI (sI (sI (sI (sI (sI (sI (sR (sI (sI (sI (sI h p 0 x) p 1 (if (if x = 0 then (false) else (if x = 7 then (false) else (true))) = true then (y) else (0))) p 2 (if x = 5 then (z) else (if x = 6 then (z) else (0)))) p 3 (if x = 5 then (u) else (0))) p 4 (some q)) p 5 0) p 6 0) p 7 0) p 8 0) p 9 0) p 10 0) p 11 0) p 12 (if x = 0 then (0) else (3))) p 12)) := HW_sI w79
    refine e_ld (pc' := 144) i26_143 rfl rfl ?_
    obtain ⟨h68, s69, H⟩ := H
    have w85q := HW_sp (show x_okm 27 = true by rfl) s69 w81
    have w85 : HW h68 := w85q.1
    have rq71 : RQ q h68.1 := by rw [w85q.2]; exact hq
    refine e_cV (As := [.ref p]) (rest := []) (pc' := 147) i26_144 rfl rfl rfl rfl (by show (Nat.beq (x_kd 27) 0 && x_is p _ (MC 27) 0) = true; rw [show x_kd 27 = 0 by decide +kernel, show MC 27 = 3 by decide +kernel, (x_isP hp w81.1)]; rfl) s69 ?_
    refine e_rt i26_147 rfl ?_
    exact H
-- FloorTurn$Part.forgetCounts()V
set_option maxHeartbeats 8000000 in
set_option maxRecDepth 100000 in
theorem v27 {L : Nat} {xs : Nat → Int32} {Q : Option Value → Hp → Prop} {h : Hp} {p : Nat} (hw : HW h) (hp : PT p)
  (H : Q none (sI (sI (sI h p 14 0) p 15 0) p 16 0)) : ∃ r h', Sp L xs 27 [.ref p] h r h' ∧ Q r h' := by
  refine sp_ex (ls := [some (.ref p)]) rfl ?_
  refine e_ld (pc' := 1) i27_0 rfl rfl ?_
  refine e_cn (pc' := 2) i27_1 rfl ?_
  refine e_put (h' := sI h p 14 0) (pc' := 5) i27_2 rfl (x_isP hp hw.1) rfl ?_
  have w2 : HW (sI h p 14 0) := HW_sI hw
  refine e_ld (pc' := 6) i27_5 rfl rfl ?_
  refine e_cn (pc' := 7) i27_6 rfl ?_
  refine e_put (h' := sI (sI h p 14 0) p 15 0) (pc' := 10) i27_7 rfl (x_isP hp w2.1) rfl ?_
  have w4 : HW (sI (sI h p 14 0) p 15 0) := HW_sI w2
  refine e_ld (pc' := 11) i27_10 rfl rfl ?_
  refine e_cn (pc' := 12) i27_11 rfl ?_
  refine e_put (h' := sI (sI (sI h p 14 0) p 15 0) p 16 0) (pc' := 15) i27_12 rfl (x_isP hp w4.1) rfl ?_
  have w6 : HW (sI (sI (sI h p 14 0) p 15 0) p 16 0) := HW_sI w4
  refine e_rt i27_15 rfl ?_
  exact H
-- FloorTurn$Part.copyFrom(LFloorTurn$Part;)V
set_option maxHeartbeats 8000000 in
set_option maxRecDepth 100000 in
theorem v28 {L : Nat} {xs : Nat → Int32} {Q : Option Value → Hp → Prop} {h : Hp} {p : Nat} {o : Nat} (hw : HW h) (hp : PT p) (ho : PT o) (hpo : o ≠ p)
  (H : (gR h o 4 = none → ((x_ok01 (gI h o 11) = true) ∧ Q none (sI (sI (sI (sI (sI (sI (sI (sI (sI (sI (sI (sI (sR (sI (sI (sI (sI h p 0 (gI h o 0)) p 1 (gI h o 1)) p 2 (gI h o 2)) p 3 (gI h o 3)) p 4 none) p 5 (gI h o 5)) p 6 (gI h o 6)) p 7 (gI h o 7)) p 8 (gI h o 8)) p 9 (gI h o 9)) p 10 (gI h o 10)) p 11 (gI h o 11)) p 12 (gI h o 12)) p 13 (gI h o 13)) p 14 (gI h o 14)) p 15 (gI h o 15)) p 16 (gI h o 16)))) ∧ (∀ q6 : Nat, gR h o 4 = some q6 → ((x_ok01 (gI h o 11) = true) ∧ Q none (sI (sI (sI (sI (sI (sI (sI (sI (sI (sI (sI (sI (sR (sI (sI (sI (sI h p 0 (gI h o 0)) p 1 (gI h o 1)) p 2 (gI h o 2)) p 3 (gI h o 3)) p 4 (some q6)) p 5 (gI h o 5)) p 6 (gI h o 6)) p 7 (gI h o 7)) p 8 (gI h o 8)) p 9 (gI h o 9)) p 10 (gI h o 10)) p 11 (gI h o 11)) p 12 (gI h o 12)) p 13 (gI h o 13)) p 14 (gI h o 14)) p 15 (gI h o 15)) p 16 (gI h o 16))))) : ∃ r h', Sp L xs 28 [.ref p, .ref o] h r h' ∧ Q r h' := by
  refine sp_ex (ls := [some (.ref p), some (.ref o)]) rfl ?_
  refine e_ld (pc' := 1) i28_0 rfl rfl ?_
  refine e_ld (pc' := 2) i28_1 rfl rfl ?_
  refine e_get (w := .int (gI h o 0)) (pc' := 5) i28_2 rfl (x_isP ho hw.1) rfl ?_
  refine e_put (h' := sI h p 0 (gI h o 0)) (pc' := 8) i28_5 rfl (x_isP hp hw.1) rfl ?_
  have w2 : HW (sI h p 0 (gI h o 0)) := HW_sI hw
  refine e_ld (pc' := 9) i28_8 rfl rfl ?_
  refine e_ld (pc' := 10) i28_9 rfl rfl ?_
  refine e_get (w := .int (gI h o 1)) (pc' := 13) i28_10 rfl (x_isP ho w2.1) (congrArg Value.int (gI_osI hpo)) ?_
  refine e_put (h' := sI (sI h p 0 (gI h o 0)) p 1 (gI h o 1)) (pc' := 16) i28_13 rfl (x_isP hp w2.1) rfl ?_
  have w4 : HW (sI (sI h p 0 (gI h o 0)) p 1 (gI h o 1)) := HW_sI w2
  refine e_ld (pc' := 17) i28_16 rfl rfl ?_
  refine e_ld (pc' := 18) i28_17 rfl rfl ?_
  refine e_get (w := .int (gI h o 2)) (pc' := 21) i28_18 rfl (x_isP ho w4.1) (congrArg Value.int (Eq.trans (gI_osI hpo) (gI_osI hpo))) ?_
  refine e_put (h' := sI (sI (sI h p 0 (gI h o 0)) p 1 (gI h o 1)) p 2 (gI h o 2)) (pc' := 24) i28_21 rfl (x_isP hp w4.1) rfl ?_
  have w6 : HW (sI (sI (sI h p 0 (gI h o 0)) p 1 (gI h o 1)) p 2 (gI h o 2)) := HW_sI w4
  refine e_ld (pc' := 25) i28_24 rfl rfl ?_
  refine e_ld (pc' := 26) i28_25 rfl rfl ?_
  refine e_get (w := .int (gI h o 3)) (pc' := 29) i28_26 rfl (x_isP ho w6.1) (congrArg Value.int (Eq.trans (gI_osI hpo) (Eq.trans (gI_osI hpo) (gI_osI hpo)))) ?_
  refine e_put (h' := sI (sI (sI (sI h p 0 (gI h o 0)) p 1 (gI h o 1)) p 2 (gI h o 2)) p 3 (gI h o 3)) (pc' := 32) i28_29 rfl (x_isP hp w6.1) rfl ?_
  have w8 : HW (sI (sI (sI (sI h p 0 (gI h o 0)) p 1 (gI h o 1)) p 2 (gI h o 2)) p 3 (gI h o 3)) := HW_sI w6
  refine e_ld (pc' := 33) i28_32 rfl rfl ?_
  refine e_ld (pc' := 34) i28_33 rfl rfl ?_
  cases hr5 : gR h o 4 with
  | none =>
    replace H := H.1 hr5
    refine e_get (w := .null) (pc' := 37) i28_34 rfl (x_isP ho w8.1) (x_fvN (by decide +kernel) (Eq.trans (Eq.trans gR_psI (Eq.trans gR_psI (Eq.trans gR_psI gR_psI))) hr5)) ?_
    refine e_put (h' := sR (sI (sI (sI (sI h p 0 (gI h o 0)) p 1 (gI h o 1)) p 2 (gI h o 2)) p 3 (gI h o 3)) p 4 none) (pc' := 40) i28_37 rfl (x_isP hp w8.1) rfl ?_
    have w12 : HW (sR (sI (sI (sI (sI h p 0 (gI h o 0)) p 1 (gI h o 1)) p 2 (gI h o 2)) p 3 (gI h o 3)) p 4 none) := HW_sRp hp w8
    refine e_ld (pc' := 41) i28_40 rfl rfl ?_
    refine e_ld (pc' := 42) i28_41 rfl rfl ?_
    refine e_get (w := .int (gI h o 5)) (pc' := 45) i28_42 rfl (x_isP ho w12.1) (congrArg Value.int (Eq.trans gI_psR (Eq.trans (gI_osI hpo) (Eq.trans (gI_osI hpo) (Eq.trans (gI_osI hpo) (gI_osI hpo)))))) ?_
    refine e_put (h' := sI (sR (sI (sI (sI (sI h p 0 (gI h o 0)) p 1 (gI h o 1)) p 2 (gI h o 2)) p 3 (gI h o 3)) p 4 none) p 5 (gI h o 5)) (pc' := 48) i28_45 rfl (x_isP hp w12.1) rfl ?_
    have w14 : HW (sI (sR (sI (sI (sI (sI h p 0 (gI h o 0)) p 1 (gI h o 1)) p 2 (gI h o 2)) p 3 (gI h o 3)) p 4 none) p 5 (gI h o 5)) := HW_sI w12
    refine e_ld (pc' := 49) i28_48 rfl rfl ?_
    refine e_ld (pc' := 50) i28_49 rfl rfl ?_
    refine e_get (w := .int (gI h o 6)) (pc' := 53) i28_50 rfl (x_isP ho w14.1) (congrArg Value.int (Eq.trans (gI_osI hpo) (Eq.trans gI_psR (Eq.trans (gI_osI hpo) (Eq.trans (gI_osI hpo) (Eq.trans (gI_osI hpo) (gI_osI hpo))))))) ?_
    refine e_put (h' := sI (sI (sR (sI (sI (sI (sI h p 0 (gI h o 0)) p 1 (gI h o 1)) p 2 (gI h o 2)) p 3 (gI h o 3)) p 4 none) p 5 (gI h o 5)) p 6 (gI h o 6)) (pc' := 56) i28_53 rfl (x_isP hp w14.1) rfl ?_
    have w16 : HW (sI (sI (sR (sI (sI (sI (sI h p 0 (gI h o 0)) p 1 (gI h o 1)) p 2 (gI h o 2)) p 3 (gI h o 3)) p 4 none) p 5 (gI h o 5)) p 6 (gI h o 6)) := HW_sI w14
    refine e_ld (pc' := 57) i28_56 rfl rfl ?_
    refine e_ld (pc' := 58) i28_57 rfl rfl ?_
    refine e_get (w := .int (gI h o 7)) (pc' := 61) i28_58 rfl (x_isP ho w16.1) (congrArg Value.int (Eq.trans (gI_osI hpo) (Eq.trans (gI_osI hpo) (Eq.trans gI_psR (Eq.trans (gI_osI hpo) (Eq.trans (gI_osI hpo) (Eq.trans (gI_osI hpo) (gI_osI hpo)))))))) ?_
    refine e_put (h' := sI (sI (sI (sR (sI (sI (sI (sI h p 0 (gI h o 0)) p 1 (gI h o 1)) p 2 (gI h o 2)) p 3 (gI h o 3)) p 4 none) p 5 (gI h o 5)) p 6 (gI h o 6)) p 7 (gI h o 7)) (pc' := 64) i28_61 rfl (x_isP hp w16.1) rfl ?_
    have w18 : HW (sI (sI (sI (sR (sI (sI (sI (sI h p 0 (gI h o 0)) p 1 (gI h o 1)) p 2 (gI h o 2)) p 3 (gI h o 3)) p 4 none) p 5 (gI h o 5)) p 6 (gI h o 6)) p 7 (gI h o 7)) := HW_sI w16
    refine e_ld (pc' := 65) i28_64 rfl rfl ?_
    refine e_ld (pc' := 66) i28_65 rfl rfl ?_
    refine e_get (w := .int (gI h o 8)) (pc' := 69) i28_66 rfl (x_isP ho w18.1) (congrArg Value.int (Eq.trans (gI_osI hpo) (Eq.trans (gI_osI hpo) (Eq.trans (gI_osI hpo) (Eq.trans gI_psR (Eq.trans (gI_osI hpo) (Eq.trans (gI_osI hpo) (Eq.trans (gI_osI hpo) (gI_osI hpo))))))))) ?_
    refine e_put (h' := sI (sI (sI (sI (sR (sI (sI (sI (sI h p 0 (gI h o 0)) p 1 (gI h o 1)) p 2 (gI h o 2)) p 3 (gI h o 3)) p 4 none) p 5 (gI h o 5)) p 6 (gI h o 6)) p 7 (gI h o 7)) p 8 (gI h o 8)) (pc' := 72) i28_69 rfl (x_isP hp w18.1) rfl ?_
    have w20 : HW (sI (sI (sI (sI (sR (sI (sI (sI (sI h p 0 (gI h o 0)) p 1 (gI h o 1)) p 2 (gI h o 2)) p 3 (gI h o 3)) p 4 none) p 5 (gI h o 5)) p 6 (gI h o 6)) p 7 (gI h o 7)) p 8 (gI h o 8)) := HW_sI w18
    refine e_ld (pc' := 73) i28_72 rfl rfl ?_
    refine e_ld (pc' := 74) i28_73 rfl rfl ?_
    refine e_get (w := .int (gI h o 9)) (pc' := 77) i28_74 rfl (x_isP ho w20.1) (congrArg Value.int (Eq.trans (gI_osI hpo) (Eq.trans (gI_osI hpo) (Eq.trans (gI_osI hpo) (Eq.trans (gI_osI hpo) (Eq.trans gI_psR (Eq.trans (gI_osI hpo) (Eq.trans (gI_osI hpo) (Eq.trans (gI_osI hpo) (gI_osI hpo)))))))))) ?_
    refine e_put (h' := sI (sI (sI (sI (sI (sR (sI (sI (sI (sI h p 0 (gI h o 0)) p 1 (gI h o 1)) p 2 (gI h o 2)) p 3 (gI h o 3)) p 4 none) p 5 (gI h o 5)) p 6 (gI h o 6)) p 7 (gI h o 7)) p 8 (gI h o 8)) p 9 (gI h o 9)) (pc' := 80) i28_77 rfl (x_isP hp w20.1) rfl ?_
    have w22 : HW (sI (sI (sI (sI (sI (sR (sI (sI (sI (sI h p 0 (gI h o 0)) p 1 (gI h o 1)) p 2 (gI h o 2)) p 3 (gI h o 3)) p 4 none) p 5 (gI h o 5)) p 6 (gI h o 6)) p 7 (gI h o 7)) p 8 (gI h o 8)) p 9 (gI h o 9)) := HW_sI w20
    refine e_ld (pc' := 81) i28_80 rfl rfl ?_
    refine e_ld (pc' := 82) i28_81 rfl rfl ?_
    refine e_get (w := .int (gI h o 10)) (pc' := 85) i28_82 rfl (x_isP ho w22.1) (congrArg Value.int (Eq.trans (gI_osI hpo) (Eq.trans (gI_osI hpo) (Eq.trans (gI_osI hpo) (Eq.trans (gI_osI hpo) (Eq.trans (gI_osI hpo) (Eq.trans gI_psR (Eq.trans (gI_osI hpo) (Eq.trans (gI_osI hpo) (Eq.trans (gI_osI hpo) (gI_osI hpo))))))))))) ?_
    refine e_put (h' := sI (sI (sI (sI (sI (sI (sR (sI (sI (sI (sI h p 0 (gI h o 0)) p 1 (gI h o 1)) p 2 (gI h o 2)) p 3 (gI h o 3)) p 4 none) p 5 (gI h o 5)) p 6 (gI h o 6)) p 7 (gI h o 7)) p 8 (gI h o 8)) p 9 (gI h o 9)) p 10 (gI h o 10)) (pc' := 88) i28_85 rfl (x_isP hp w22.1) rfl ?_
    have w24 : HW (sI (sI (sI (sI (sI (sI (sR (sI (sI (sI (sI h p 0 (gI h o 0)) p 1 (gI h o 1)) p 2 (gI h o 2)) p 3 (gI h o 3)) p 4 none) p 5 (gI h o 5)) p 6 (gI h o 6)) p 7 (gI h o 7)) p 8 (gI h o 8)) p 9 (gI h o 9)) p 10 (gI h o 10)) := HW_sI w22
    refine e_ld (pc' := 89) i28_88 rfl rfl ?_
    refine e_ld (pc' := 90) i28_89 rfl rfl ?_
    refine e_get (w := .int (gI h o 11)) (pc' := 93) i28_90 rfl (x_isP ho w24.1) (congrArg Value.int (Eq.trans (gI_osI hpo) (Eq.trans (gI_osI hpo) (Eq.trans (gI_osI hpo) (Eq.trans (gI_osI hpo) (Eq.trans (gI_osI hpo) (Eq.trans (gI_osI hpo) (Eq.trans gI_psR (Eq.trans (gI_osI hpo) (Eq.trans (gI_osI hpo) (Eq.trans (gI_osI hpo) (gI_osI hpo)))))))))))) ?_
    obtain ⟨g14, H⟩ := H
    refine e_put (h' := sI (sI (sI (sI (sI (sI (sI (sR (sI (sI (sI (sI h p 0 (gI h o 0)) p 1 (gI h o 1)) p 2 (gI h o 2)) p 3 (gI h o 3)) p 4 none) p 5 (gI h o 5)) p 6 (gI h o 6)) p 7 (gI h o 7)) p 8 (gI h o 8)) p 9 (gI h o 9)) p 10 (gI h o 10)) p 11 (gI h o 11)) (pc' := 96) i28_93 rfl (x_isP hp w24.1) (by simp only [show FK 3 11 = 3 by decide +kernel, x_put, g14, cond_true]) ?_
    have w27 : HW (sI (sI (sI (sI (sI (sI (sI (sR (sI (sI (sI (sI h p 0 (gI h o 0)) p 1 (gI h o 1)) p 2 (gI h o 2)) p 3 (gI h o 3)) p 4 none) p 5 (gI h o 5)) p 6 (gI h o 6)) p 7 (gI h o 7)) p 8 (gI h o 8)) p 9 (gI h o 9)) p 10 (gI h o 10)) p 11 (gI h o 11)) := HW_sI w24
    refine e_ld (pc' := 97) i28_96 rfl rfl ?_
    refine e_ld (pc' := 98) i28_97 rfl rfl ?_
    refine e_get (w := .int (gI h o 12)) (pc' := 101) i28_98 rfl (x_isP ho w27.1) (congrArg Value.int (Eq.trans (gI_osI hpo) (Eq.trans (gI_osI hpo) (Eq.trans (gI_osI hpo) (Eq.trans (gI_osI hpo) (Eq.trans (gI_osI hpo) (Eq.trans (gI_osI hpo) (Eq.trans (gI_osI hpo) (Eq.trans gI_psR (Eq.trans (gI_osI hpo) (Eq.trans (gI_osI hpo) (Eq.trans (gI_osI hpo) (gI_osI hpo))))))))))))) ?_
    refine e_put (h' := sI (sI (sI (sI (sI (sI (sI (sI (sR (sI (sI (sI (sI h p 0 (gI h o 0)) p 1 (gI h o 1)) p 2 (gI h o 2)) p 3 (gI h o 3)) p 4 none) p 5 (gI h o 5)) p 6 (gI h o 6)) p 7 (gI h o 7)) p 8 (gI h o 8)) p 9 (gI h o 9)) p 10 (gI h o 10)) p 11 (gI h o 11)) p 12 (gI h o 12)) (pc' := 104) i28_101 rfl (x_isP hp w27.1) rfl ?_
    have w29 : HW (sI (sI (sI (sI (sI (sI (sI (sI (sR (sI (sI (sI (sI h p 0 (gI h o 0)) p 1 (gI h o 1)) p 2 (gI h o 2)) p 3 (gI h o 3)) p 4 none) p 5 (gI h o 5)) p 6 (gI h o 6)) p 7 (gI h o 7)) p 8 (gI h o 8)) p 9 (gI h o 9)) p 10 (gI h o 10)) p 11 (gI h o 11)) p 12 (gI h o 12)) := HW_sI w27
    refine e_ld (pc' := 105) i28_104 rfl rfl ?_
    refine e_ld (pc' := 106) i28_105 rfl rfl ?_
    refine e_get (w := .int (gI h o 13)) (pc' := 109) i28_106 rfl (x_isP ho w29.1) (congrArg Value.int (Eq.trans (gI_osI hpo) (Eq.trans (gI_osI hpo) (Eq.trans (gI_osI hpo) (Eq.trans (gI_osI hpo) (Eq.trans (gI_osI hpo) (Eq.trans (gI_osI hpo) (Eq.trans (gI_osI hpo) (Eq.trans (gI_osI hpo) (Eq.trans gI_psR (Eq.trans (gI_osI hpo) (Eq.trans (gI_osI hpo) (Eq.trans (gI_osI hpo) (gI_osI hpo)))))))))))))) ?_
    refine e_put (h' := sI (sI (sI (sI (sI (sI (sI (sI (sI (sR (sI (sI (sI (sI h p 0 (gI h o 0)) p 1 (gI h o 1)) p 2 (gI h o 2)) p 3 (gI h o 3)) p 4 none) p 5 (gI h o 5)) p 6 (gI h o 6)) p 7 (gI h o 7)) p 8 (gI h o 8)) p 9 (gI h o 9)) p 10 (gI h o 10)) p 11 (gI h o 11)) p 12 (gI h o 12)) p 13 (gI h o 13)) (pc' := 112) i28_109 rfl (x_isP hp w29.1) rfl ?_
    have w31 : HW (sI (sI (sI (sI (sI (sI (sI (sI (sI (sR (sI (sI (sI (sI h p 0 (gI h o 0)) p 1 (gI h o 1)) p 2 (gI h o 2)) p 3 (gI h o 3)) p 4 none) p 5 (gI h o 5)) p 6 (gI h o 6)) p 7 (gI h o 7)) p 8 (gI h o 8)) p 9 (gI h o 9)) p 10 (gI h o 10)) p 11 (gI h o 11)) p 12 (gI h o 12)) p 13 (gI h o 13)) := HW_sI w29
    refine e_ld (pc' := 113) i28_112 rfl rfl ?_
    refine e_ld (pc' := 114) i28_113 rfl rfl ?_
    refine e_get (w := .int (gI h o 14)) (pc' := 117) i28_114 rfl (x_isP ho w31.1) (congrArg Value.int (Eq.trans (gI_osI hpo) (Eq.trans (gI_osI hpo) (Eq.trans (gI_osI hpo) (Eq.trans (gI_osI hpo) (Eq.trans (gI_osI hpo) (Eq.trans (gI_osI hpo) (Eq.trans (gI_osI hpo) (Eq.trans (gI_osI hpo) (Eq.trans (gI_osI hpo) (Eq.trans gI_psR (Eq.trans (gI_osI hpo) (Eq.trans (gI_osI hpo) (Eq.trans (gI_osI hpo) (gI_osI hpo))))))))))))))) ?_
    refine e_put (h' := sI (sI (sI (sI (sI (sI (sI (sI (sI (sI (sR (sI (sI (sI (sI h p 0 (gI h o 0)) p 1 (gI h o 1)) p 2 (gI h o 2)) p 3 (gI h o 3)) p 4 none) p 5 (gI h o 5)) p 6 (gI h o 6)) p 7 (gI h o 7)) p 8 (gI h o 8)) p 9 (gI h o 9)) p 10 (gI h o 10)) p 11 (gI h o 11)) p 12 (gI h o 12)) p 13 (gI h o 13)) p 14 (gI h o 14)) (pc' := 120) i28_117 rfl (x_isP hp w31.1) rfl ?_
    have w33 : HW (sI (sI (sI (sI (sI (sI (sI (sI (sI (sI (sR (sI (sI (sI (sI h p 0 (gI h o 0)) p 1 (gI h o 1)) p 2 (gI h o 2)) p 3 (gI h o 3)) p 4 none) p 5 (gI h o 5)) p 6 (gI h o 6)) p 7 (gI h o 7)) p 8 (gI h o 8)) p 9 (gI h o 9)) p 10 (gI h o 10)) p 11 (gI h o 11)) p 12 (gI h o 12)) p 13 (gI h o 13)) p 14 (gI h o 14)) := HW_sI w31
    refine e_ld (pc' := 121) i28_120 rfl rfl ?_
    refine e_ld (pc' := 122) i28_121 rfl rfl ?_
    refine e_get (w := .int (gI h o 15)) (pc' := 125) i28_122 rfl (x_isP ho w33.1) (congrArg Value.int (Eq.trans (gI_osI hpo) (Eq.trans (gI_osI hpo) (Eq.trans (gI_osI hpo) (Eq.trans (gI_osI hpo) (Eq.trans (gI_osI hpo) (Eq.trans (gI_osI hpo) (Eq.trans (gI_osI hpo) (Eq.trans (gI_osI hpo) (Eq.trans (gI_osI hpo) (Eq.trans (gI_osI hpo) (Eq.trans gI_psR (Eq.trans (gI_osI hpo) (Eq.trans (gI_osI hpo) (Eq.trans (gI_osI hpo) (gI_osI hpo)))))))))))))))) ?_
    refine e_put (h' := sI (sI (sI (sI (sI (sI (sI (sI (sI (sI (sI (sR (sI (sI (sI (sI h p 0 (gI h o 0)) p 1 (gI h o 1)) p 2 (gI h o 2)) p 3 (gI h o 3)) p 4 none) p 5 (gI h o 5)) p 6 (gI h o 6)) p 7 (gI h o 7)) p 8 (gI h o 8)) p 9 (gI h o 9)) p 10 (gI h o 10)) p 11 (gI h o 11)) p 12 (gI h o 12)) p 13 (gI h o 13)) p 14 (gI h o 14)) p 15 (gI h o 15)) (pc' := 128) i28_125 rfl (x_isP hp w33.1) rfl ?_
    have w35 : HW (sI (sI (sI (sI (sI (sI (sI (sI (sI (sI (sI (sR (sI (sI (sI (sI h p 0 (gI h o 0)) p 1 (gI h o 1)) p 2 (gI h o 2)) p 3 (gI h o 3)) p 4 none) p 5 (gI h o 5)) p 6 (gI h o 6)) p 7 (gI h o 7)) p 8 (gI h o 8)) p 9 (gI h o 9)) p 10 (gI h o 10)) p 11 (gI h o 11)) p 12 (gI h o 12)) p 13 (gI h o 13)) p 14 (gI h o 14)) p 15 (gI h o 15)) := HW_sI w33
    refine e_ld (pc' := 129) i28_128 rfl rfl ?_
    refine e_ld (pc' := 130) i28_129 rfl rfl ?_
    refine e_get (w := .int (gI h o 16)) (pc' := 133) i28_130 rfl (x_isP ho w35.1) (congrArg Value.int (Eq.trans (gI_osI hpo) (Eq.trans (gI_osI hpo) (Eq.trans (gI_osI hpo) (Eq.trans (gI_osI hpo) (Eq.trans (gI_osI hpo) (Eq.trans (gI_osI hpo) (Eq.trans (gI_osI hpo) (Eq.trans (gI_osI hpo) (Eq.trans (gI_osI hpo) (Eq.trans (gI_osI hpo) (Eq.trans (gI_osI hpo) (Eq.trans gI_psR (Eq.trans (gI_osI hpo) (Eq.trans (gI_osI hpo) (Eq.trans (gI_osI hpo) (gI_osI hpo))))))))))))))))) ?_
    refine e_put (h' := sI (sI (sI (sI (sI (sI (sI (sI (sI (sI (sI (sI (sR (sI (sI (sI (sI h p 0 (gI h o 0)) p 1 (gI h o 1)) p 2 (gI h o 2)) p 3 (gI h o 3)) p 4 none) p 5 (gI h o 5)) p 6 (gI h o 6)) p 7 (gI h o 7)) p 8 (gI h o 8)) p 9 (gI h o 9)) p 10 (gI h o 10)) p 11 (gI h o 11)) p 12 (gI h o 12)) p 13 (gI h o 13)) p 14 (gI h o 14)) p 15 (gI h o 15)) p 16 (gI h o 16)) (pc' := 136) i28_133 rfl (x_isP hp w35.1) rfl ?_
    have w37 : HW (sI (sI (sI (sI (sI (sI (sI (sI (sI (sI (sI (sI (sR (sI (sI (sI (sI h p 0 (gI h o 0)) p 1 (gI h o 1)) p 2 (gI h o 2)) p 3 (gI h o 3)) p 4 none) p 5 (gI h o 5)) p 6 (gI h o 6)) p 7 (gI h o 7)) p 8 (gI h o 8)) p 9 (gI h o 9)) p 10 (gI h o 10)) p 11 (gI h o 11)) p 12 (gI h o 12)) p 13 (gI h o 13)) p 14 (gI h o 14)) p 15 (gI h o 15)) p 16 (gI h o 16)) := HW_sI w35
    refine e_rt i28_136 rfl ?_
    exact H
  | some q6 =>
    replace H := H.2 _ hr5
    refine e_get (w := .ref q6) (pc' := 37) i28_34 rfl (x_isP ho w8.1) (x_fvR (by decide +kernel) (Eq.trans (Eq.trans gR_psI (Eq.trans gR_psI (Eq.trans gR_psI gR_psI))) hr5)) ?_
    refine e_put (h' := sR (sI (sI (sI (sI h p 0 (gI h o 0)) p 1 (gI h o 1)) p 2 (gI h o 2)) p 3 (gI h o 3)) p 4 (some q6)) (pc' := 40) i28_37 rfl (x_isP hp w8.1) rfl ?_
    have w26 : HW (sR (sI (sI (sI (sI h p 0 (gI h o 0)) p 1 (gI h o 1)) p 2 (gI h o 2)) p 3 (gI h o 3)) p 4 (some q6)) := HW_sRp hp w8
    refine e_ld (pc' := 41) i28_40 rfl rfl ?_
    refine e_ld (pc' := 42) i28_41 rfl rfl ?_
    refine e_get (w := .int (gI h o 5)) (pc' := 45) i28_42 rfl (x_isP ho w26.1) (congrArg Value.int (Eq.trans gI_psR (Eq.trans (gI_osI hpo) (Eq.trans (gI_osI hpo) (Eq.trans (gI_osI hpo) (gI_osI hpo)))))) ?_
    refine e_put (h' := sI (sR (sI (sI (sI (sI h p 0 (gI h o 0)) p 1 (gI h o 1)) p 2 (gI h o 2)) p 3 (gI h o 3)) p 4 (some q6)) p 5 (gI h o 5)) (pc' := 48) i28_45 rfl (x_isP hp w26.1) rfl ?_
    have w28 : HW (sI (sR (sI (sI (sI (sI h p 0 (gI h o 0)) p 1 (gI h o 1)) p 2 (gI h o 2)) p 3 (gI h o 3)) p 4 (some q6)) p 5 (gI h o 5)) := HW_sI w26
    refine e_ld (pc' := 49) i28_48 rfl rfl ?_
    refine e_ld (pc' := 50) i28_49 rfl rfl ?_
    refine e_get (w := .int (gI h o 6)) (pc' := 53) i28_50 rfl (x_isP ho w28.1) (congrArg Value.int (Eq.trans (gI_osI hpo) (Eq.trans gI_psR (Eq.trans (gI_osI hpo) (Eq.trans (gI_osI hpo) (Eq.trans (gI_osI hpo) (gI_osI hpo))))))) ?_
    refine e_put (h' := sI (sI (sR (sI (sI (sI (sI h p 0 (gI h o 0)) p 1 (gI h o 1)) p 2 (gI h o 2)) p 3 (gI h o 3)) p 4 (some q6)) p 5 (gI h o 5)) p 6 (gI h o 6)) (pc' := 56) i28_53 rfl (x_isP hp w28.1) rfl ?_
    have w30 : HW (sI (sI (sR (sI (sI (sI (sI h p 0 (gI h o 0)) p 1 (gI h o 1)) p 2 (gI h o 2)) p 3 (gI h o 3)) p 4 (some q6)) p 5 (gI h o 5)) p 6 (gI h o 6)) := HW_sI w28
    refine e_ld (pc' := 57) i28_56 rfl rfl ?_
    refine e_ld (pc' := 58) i28_57 rfl rfl ?_
    refine e_get (w := .int (gI h o 7)) (pc' := 61) i28_58 rfl (x_isP ho w30.1) (congrArg Value.int (Eq.trans (gI_osI hpo) (Eq.trans (gI_osI hpo) (Eq.trans gI_psR (Eq.trans (gI_osI hpo) (Eq.trans (gI_osI hpo) (Eq.trans (gI_osI hpo) (gI_osI hpo)))))))) ?_
    refine e_put (h' := sI (sI (sI (sR (sI (sI (sI (sI h p 0 (gI h o 0)) p 1 (gI h o 1)) p 2 (gI h o 2)) p 3 (gI h o 3)) p 4 (some q6)) p 5 (gI h o 5)) p 6 (gI h o 6)) p 7 (gI h o 7)) (pc' := 64) i28_61 rfl (x_isP hp w30.1) rfl ?_
    have w32 : HW (sI (sI (sI (sR (sI (sI (sI (sI h p 0 (gI h o 0)) p 1 (gI h o 1)) p 2 (gI h o 2)) p 3 (gI h o 3)) p 4 (some q6)) p 5 (gI h o 5)) p 6 (gI h o 6)) p 7 (gI h o 7)) := HW_sI w30
    refine e_ld (pc' := 65) i28_64 rfl rfl ?_
    refine e_ld (pc' := 66) i28_65 rfl rfl ?_
    refine e_get (w := .int (gI h o 8)) (pc' := 69) i28_66 rfl (x_isP ho w32.1) (congrArg Value.int (Eq.trans (gI_osI hpo) (Eq.trans (gI_osI hpo) (Eq.trans (gI_osI hpo) (Eq.trans gI_psR (Eq.trans (gI_osI hpo) (Eq.trans (gI_osI hpo) (Eq.trans (gI_osI hpo) (gI_osI hpo))))))))) ?_
    refine e_put (h' := sI (sI (sI (sI (sR (sI (sI (sI (sI h p 0 (gI h o 0)) p 1 (gI h o 1)) p 2 (gI h o 2)) p 3 (gI h o 3)) p 4 (some q6)) p 5 (gI h o 5)) p 6 (gI h o 6)) p 7 (gI h o 7)) p 8 (gI h o 8)) (pc' := 72) i28_69 rfl (x_isP hp w32.1) rfl ?_
    have w34 : HW (sI (sI (sI (sI (sR (sI (sI (sI (sI h p 0 (gI h o 0)) p 1 (gI h o 1)) p 2 (gI h o 2)) p 3 (gI h o 3)) p 4 (some q6)) p 5 (gI h o 5)) p 6 (gI h o 6)) p 7 (gI h o 7)) p 8 (gI h o 8)) := HW_sI w32
    refine e_ld (pc' := 73) i28_72 rfl rfl ?_
    refine e_ld (pc' := 74) i28_73 rfl rfl ?_
    refine e_get (w := .int (gI h o 9)) (pc' := 77) i28_74 rfl (x_isP ho w34.1) (congrArg Value.int (Eq.trans (gI_osI hpo) (Eq.trans (gI_osI hpo) (Eq.trans (gI_osI hpo) (Eq.trans (gI_osI hpo) (Eq.trans gI_psR (Eq.trans (gI_osI hpo) (Eq.trans (gI_osI hpo) (Eq.trans (gI_osI hpo) (gI_osI hpo)))))))))) ?_
    refine e_put (h' := sI (sI (sI (sI (sI (sR (sI (sI (sI (sI h p 0 (gI h o 0)) p 1 (gI h o 1)) p 2 (gI h o 2)) p 3 (gI h o 3)) p 4 (some q6)) p 5 (gI h o 5)) p 6 (gI h o 6)) p 7 (gI h o 7)) p 8 (gI h o 8)) p 9 (gI h o 9)) (pc' := 80) i28_77 rfl (x_isP hp w34.1) rfl ?_
    have w36 : HW (sI (sI (sI (sI (sI (sR (sI (sI (sI (sI h p 0 (gI h o 0)) p 1 (gI h o 1)) p 2 (gI h o 2)) p 3 (gI h o 3)) p 4 (some q6)) p 5 (gI h o 5)) p 6 (gI h o 6)) p 7 (gI h o 7)) p 8 (gI h o 8)) p 9 (gI h o 9)) := HW_sI w34
    refine e_ld (pc' := 81) i28_80 rfl rfl ?_
    refine e_ld (pc' := 82) i28_81 rfl rfl ?_
    refine e_get (w := .int (gI h o 10)) (pc' := 85) i28_82 rfl (x_isP ho w36.1) (congrArg Value.int (Eq.trans (gI_osI hpo) (Eq.trans (gI_osI hpo) (Eq.trans (gI_osI hpo) (Eq.trans (gI_osI hpo) (Eq.trans (gI_osI hpo) (Eq.trans gI_psR (Eq.trans (gI_osI hpo) (Eq.trans (gI_osI hpo) (Eq.trans (gI_osI hpo) (gI_osI hpo))))))))))) ?_
    refine e_put (h' := sI (sI (sI (sI (sI (sI (sR (sI (sI (sI (sI h p 0 (gI h o 0)) p 1 (gI h o 1)) p 2 (gI h o 2)) p 3 (gI h o 3)) p 4 (some q6)) p 5 (gI h o 5)) p 6 (gI h o 6)) p 7 (gI h o 7)) p 8 (gI h o 8)) p 9 (gI h o 9)) p 10 (gI h o 10)) (pc' := 88) i28_85 rfl (x_isP hp w36.1) rfl ?_
    have w38 : HW (sI (sI (sI (sI (sI (sI (sR (sI (sI (sI (sI h p 0 (gI h o 0)) p 1 (gI h o 1)) p 2 (gI h o 2)) p 3 (gI h o 3)) p 4 (some q6)) p 5 (gI h o 5)) p 6 (gI h o 6)) p 7 (gI h o 7)) p 8 (gI h o 8)) p 9 (gI h o 9)) p 10 (gI h o 10)) := HW_sI w36
    refine e_ld (pc' := 89) i28_88 rfl rfl ?_
    refine e_ld (pc' := 90) i28_89 rfl rfl ?_
    refine e_get (w := .int (gI h o 11)) (pc' := 93) i28_90 rfl (x_isP ho w38.1) (congrArg Value.int (Eq.trans (gI_osI hpo) (Eq.trans (gI_osI hpo) (Eq.trans (gI_osI hpo) (Eq.trans (gI_osI hpo) (Eq.trans (gI_osI hpo) (Eq.trans (gI_osI hpo) (Eq.trans gI_psR (Eq.trans (gI_osI hpo) (Eq.trans (gI_osI hpo) (Eq.trans (gI_osI hpo) (gI_osI hpo)))))))))))) ?_
    obtain ⟨g28, H⟩ := H
    refine e_put (h' := sI (sI (sI (sI (sI (sI (sI (sR (sI (sI (sI (sI h p 0 (gI h o 0)) p 1 (gI h o 1)) p 2 (gI h o 2)) p 3 (gI h o 3)) p 4 (some q6)) p 5 (gI h o 5)) p 6 (gI h o 6)) p 7 (gI h o 7)) p 8 (gI h o 8)) p 9 (gI h o 9)) p 10 (gI h o 10)) p 11 (gI h o 11)) (pc' := 96) i28_93 rfl (x_isP hp w38.1) (by simp only [show FK 3 11 = 3 by decide +kernel, x_put, g28, cond_true]) ?_
    have w41 : HW (sI (sI (sI (sI (sI (sI (sI (sR (sI (sI (sI (sI h p 0 (gI h o 0)) p 1 (gI h o 1)) p 2 (gI h o 2)) p 3 (gI h o 3)) p 4 (some q6)) p 5 (gI h o 5)) p 6 (gI h o 6)) p 7 (gI h o 7)) p 8 (gI h o 8)) p 9 (gI h o 9)) p 10 (gI h o 10)) p 11 (gI h o 11)) := HW_sI w38
    refine e_ld (pc' := 97) i28_96 rfl rfl ?_
    refine e_ld (pc' := 98) i28_97 rfl rfl ?_
    refine e_get (w := .int (gI h o 12)) (pc' := 101) i28_98 rfl (x_isP ho w41.1) (congrArg Value.int (Eq.trans (gI_osI hpo) (Eq.trans (gI_osI hpo) (Eq.trans (gI_osI hpo) (Eq.trans (gI_osI hpo) (Eq.trans (gI_osI hpo) (Eq.trans (gI_osI hpo) (Eq.trans (gI_osI hpo) (Eq.trans gI_psR (Eq.trans (gI_osI hpo) (Eq.trans (gI_osI hpo) (Eq.trans (gI_osI hpo) (gI_osI hpo))))))))))))) ?_
    refine e_put (h' := sI (sI (sI (sI (sI (sI (sI (sI (sR (sI (sI (sI (sI h p 0 (gI h o 0)) p 1 (gI h o 1)) p 2 (gI h o 2)) p 3 (gI h o 3)) p 4 (some q6)) p 5 (gI h o 5)) p 6 (gI h o 6)) p 7 (gI h o 7)) p 8 (gI h o 8)) p 9 (gI h o 9)) p 10 (gI h o 10)) p 11 (gI h o 11)) p 12 (gI h o 12)) (pc' := 104) i28_101 rfl (x_isP hp w41.1) rfl ?_
    have w43 : HW (sI (sI (sI (sI (sI (sI (sI (sI (sR (sI (sI (sI (sI h p 0 (gI h o 0)) p 1 (gI h o 1)) p 2 (gI h o 2)) p 3 (gI h o 3)) p 4 (some q6)) p 5 (gI h o 5)) p 6 (gI h o 6)) p 7 (gI h o 7)) p 8 (gI h o 8)) p 9 (gI h o 9)) p 10 (gI h o 10)) p 11 (gI h o 11)) p 12 (gI h o 12)) := HW_sI w41
    refine e_ld (pc' := 105) i28_104 rfl rfl ?_
    refine e_ld (pc' := 106) i28_105 rfl rfl ?_
    refine e_get (w := .int (gI h o 13)) (pc' := 109) i28_106 rfl (x_isP ho w43.1) (congrArg Value.int (Eq.trans (gI_osI hpo) (Eq.trans (gI_osI hpo) (Eq.trans (gI_osI hpo) (Eq.trans (gI_osI hpo) (Eq.trans (gI_osI hpo) (Eq.trans (gI_osI hpo) (Eq.trans (gI_osI hpo) (Eq.trans (gI_osI hpo) (Eq.trans gI_psR (Eq.trans (gI_osI hpo) (Eq.trans (gI_osI hpo) (Eq.trans (gI_osI hpo) (gI_osI hpo)))))))))))))) ?_
    refine e_put (h' := sI (sI (sI (sI (sI (sI (sI (sI (sI (sR (sI (sI (sI (sI h p 0 (gI h o 0)) p 1 (gI h o 1)) p 2 (gI h o 2)) p 3 (gI h o 3)) p 4 (some q6)) p 5 (gI h o 5)) p 6 (gI h o 6)) p 7 (gI h o 7)) p 8 (gI h o 8)) p 9 (gI h o 9)) p 10 (gI h o 10)) p 11 (gI h o 11)) p 12 (gI h o 12)) p 13 (gI h o 13)) (pc' := 112) i28_109 rfl (x_isP hp w43.1) rfl ?_
    have w45 : HW (sI (sI (sI (sI (sI (sI (sI (sI (sI (sR (sI (sI (sI (sI h p 0 (gI h o 0)) p 1 (gI h o 1)) p 2 (gI h o 2)) p 3 (gI h o 3)) p 4 (some q6)) p 5 (gI h o 5)) p 6 (gI h o 6)) p 7 (gI h o 7)) p 8 (gI h o 8)) p 9 (gI h o 9)) p 10 (gI h o 10)) p 11 (gI h o 11)) p 12 (gI h o 12)) p 13 (gI h o 13)) := HW_sI w43
    refine e_ld (pc' := 113) i28_112 rfl rfl ?_
    refine e_ld (pc' := 114) i28_113 rfl rfl ?_
    refine e_get (w := .int (gI h o 14)) (pc' := 117) i28_114 rfl (x_isP ho w45.1) (congrArg Value.int (Eq.trans (gI_osI hpo) (Eq.trans (gI_osI hpo) (Eq.trans (gI_osI hpo) (Eq.trans (gI_osI hpo) (Eq.trans (gI_osI hpo) (Eq.trans (gI_osI hpo) (Eq.trans (gI_osI hpo) (Eq.trans (gI_osI hpo) (Eq.trans (gI_osI hpo) (Eq.trans gI_psR (Eq.trans (gI_osI hpo) (Eq.trans (gI_osI hpo) (Eq.trans (gI_osI hpo) (gI_osI hpo))))))))))))))) ?_
    refine e_put (h' := sI (sI (sI (sI (sI (sI (sI (sI (sI (sI (sR (sI (sI (sI (sI h p 0 (gI h o 0)) p 1 (gI h o 1)) p 2 (gI h o 2)) p 3 (gI h o 3)) p 4 (some q6)) p 5 (gI h o 5)) p 6 (gI h o 6)) p 7 (gI h o 7)) p 8 (gI h o 8)) p 9 (gI h o 9)) p 10 (gI h o 10)) p 11 (gI h o 11)) p 12 (gI h o 12)) p 13 (gI h o 13)) p 14 (gI h o 14)) (pc' := 120) i28_117 rfl (x_isP hp w45.1) rfl ?_
    have w47 : HW (sI (sI (sI (sI (sI (sI (sI (sI (sI (sI (sR (sI (sI (sI (sI h p 0 (gI h o 0)) p 1 (gI h o 1)) p 2 (gI h o 2)) p 3 (gI h o 3)) p 4 (some q6)) p 5 (gI h o 5)) p 6 (gI h o 6)) p 7 (gI h o 7)) p 8 (gI h o 8)) p 9 (gI h o 9)) p 10 (gI h o 10)) p 11 (gI h o 11)) p 12 (gI h o 12)) p 13 (gI h o 13)) p 14 (gI h o 14)) := HW_sI w45
    refine e_ld (pc' := 121) i28_120 rfl rfl ?_
    refine e_ld (pc' := 122) i28_121 rfl rfl ?_
    refine e_get (w := .int (gI h o 15)) (pc' := 125) i28_122 rfl (x_isP ho w47.1) (congrArg Value.int (Eq.trans (gI_osI hpo) (Eq.trans (gI_osI hpo) (Eq.trans (gI_osI hpo) (Eq.trans (gI_osI hpo) (Eq.trans (gI_osI hpo) (Eq.trans (gI_osI hpo) (Eq.trans (gI_osI hpo) (Eq.trans (gI_osI hpo) (Eq.trans (gI_osI hpo) (Eq.trans (gI_osI hpo) (Eq.trans gI_psR (Eq.trans (gI_osI hpo) (Eq.trans (gI_osI hpo) (Eq.trans (gI_osI hpo) (gI_osI hpo)))))))))))))))) ?_
    refine e_put (h' := sI (sI (sI (sI (sI (sI (sI (sI (sI (sI (sI (sR (sI (sI (sI (sI h p 0 (gI h o 0)) p 1 (gI h o 1)) p 2 (gI h o 2)) p 3 (gI h o 3)) p 4 (some q6)) p 5 (gI h o 5)) p 6 (gI h o 6)) p 7 (gI h o 7)) p 8 (gI h o 8)) p 9 (gI h o 9)) p 10 (gI h o 10)) p 11 (gI h o 11)) p 12 (gI h o 12)) p 13 (gI h o 13)) p 14 (gI h o 14)) p 15 (gI h o 15)) (pc' := 128) i28_125 rfl (x_isP hp w47.1) rfl ?_
    have w49 : HW (sI (sI (sI (sI (sI (sI (sI (sI (sI (sI (sI (sR (sI (sI (sI (sI h p 0 (gI h o 0)) p 1 (gI h o 1)) p 2 (gI h o 2)) p 3 (gI h o 3)) p 4 (some q6)) p 5 (gI h o 5)) p 6 (gI h o 6)) p 7 (gI h o 7)) p 8 (gI h o 8)) p 9 (gI h o 9)) p 10 (gI h o 10)) p 11 (gI h o 11)) p 12 (gI h o 12)) p 13 (gI h o 13)) p 14 (gI h o 14)) p 15 (gI h o 15)) := HW_sI w47
    refine e_ld (pc' := 129) i28_128 rfl rfl ?_
    refine e_ld (pc' := 130) i28_129 rfl rfl ?_
    refine e_get (w := .int (gI h o 16)) (pc' := 133) i28_130 rfl (x_isP ho w49.1) (congrArg Value.int (Eq.trans (gI_osI hpo) (Eq.trans (gI_osI hpo) (Eq.trans (gI_osI hpo) (Eq.trans (gI_osI hpo) (Eq.trans (gI_osI hpo) (Eq.trans (gI_osI hpo) (Eq.trans (gI_osI hpo) (Eq.trans (gI_osI hpo) (Eq.trans (gI_osI hpo) (Eq.trans (gI_osI hpo) (Eq.trans (gI_osI hpo) (Eq.trans gI_psR (Eq.trans (gI_osI hpo) (Eq.trans (gI_osI hpo) (Eq.trans (gI_osI hpo) (gI_osI hpo))))))))))))))))) ?_
    refine e_put (h' := sI (sI (sI (sI (sI (sI (sI (sI (sI (sI (sI (sI (sR (sI (sI (sI (sI h p 0 (gI h o 0)) p 1 (gI h o 1)) p 2 (gI h o 2)) p 3 (gI h o 3)) p 4 (some q6)) p 5 (gI h o 5)) p 6 (gI h o 6)) p 7 (gI h o 7)) p 8 (gI h o 8)) p 9 (gI h o 9)) p 10 (gI h o 10)) p 11 (gI h o 11)) p 12 (gI h o 12)) p 13 (gI h o 13)) p 14 (gI h o 14)) p 15 (gI h o 15)) p 16 (gI h o 16)) (pc' := 136) i28_133 rfl (x_isP hp w49.1) rfl ?_
    have w51 : HW (sI (sI (sI (sI (sI (sI (sI (sI (sI (sI (sI (sI (sR (sI (sI (sI (sI h p 0 (gI h o 0)) p 1 (gI h o 1)) p 2 (gI h o 2)) p 3 (gI h o 3)) p 4 (some q6)) p 5 (gI h o 5)) p 6 (gI h o 6)) p 7 (gI h o 7)) p 8 (gI h o 8)) p 9 (gI h o 9)) p 10 (gI h o 10)) p 11 (gI h o 11)) p 12 (gI h o 12)) p 13 (gI h o 13)) p 14 (gI h o 14)) p 15 (gI h o 15)) p 16 (gI h o 16)) := HW_sI w49
    refine e_rt i28_136 rfl ?_
    exact H
-- FloorTurn$Part.leadsTo(I)Z
set_option maxHeartbeats 8000000 in
set_option maxRecDepth 100000 in
theorem v29 {L : Nat} {xs : Nat → Int32} {Q : Option Value → Hp → Prop} {h : Hp} {p : Nat} {x : Int32} (hw : HW h) (hp : PT p)
  (H : (((gI h p 0) = 0) → (Q (some (.int 0)) h)) ∧ (¬ ((gI h p 0) = 0) → ((((gI h p 0) = 7) → (Q (some (.int 0)) h)) ∧ (¬ ((gI h p 0) = 7) → (Q (some (.int (b2i (if (gI h p 0) = 4 then (if (((gI h p 1) >>> ((x : Int32) &&& 31)) &&& 1) = 1 then (true) else (false)) else (if (gI h p 1) = x then (true) else (false)))))) h))))) : ∃ r h', Sp L xs 29 [.ref p, .int x] h r h' ∧ Q r h' := by
  refine sp_ex (ls := [some (.ref p), some (.int x)]) rfl ?_
  refine e_ld (pc' := 1) i29_0 rfl rfl ?_
  refine e_get (w := .int (gI h p 0)) (pc' := 4) i29_1 rfl (x_isP hp hw.1) rfl ?_
  refine e_if (pc' := 7) i29_4 rfl (fun c1 => ?_) (fun c1 => ?_)
  · have d2 : (gI h p 0) = 0 := (of_decide_eq_true c1)
    replace H := H.1 d2
    refine e_cn (pc' := 17) i29_16 rfl ?_
    refine e_rt i29_17 rfl ?_
    exact H
  · have d3 : ¬ ((gI h p 0) = 0) := (of_decide_eq_false c1)
    replace H := H.2 d3
    refine e_ld (pc' := 8) i29_7 rfl rfl ?_
    refine e_get (w := .int (gI h p 0)) (pc' := 11) i29_8 rfl (x_isP hp hw.1) rfl ?_
    refine e_cn (pc' := 13) i29_11 rfl ?_
    refine e_ic (pc' := 16) i29_13 rfl (fun c4 => ?_) (fun c4 => ?_)
    · have d5 : ¬ ((gI h p 0) = 7) := (of_decide_eq_true c4)
      replace H := H.2 d5
      refine e_ld (pc' := 19) i29_18 rfl rfl ?_
      refine e_get (w := .int (gI h p 0)) (pc' := 22) i29_19 rfl (x_isP hp hw.1) rfl ?_
      refine e_cn (pc' := 23) i29_22 rfl ?_
      refine e_reg (pc' := 59) (ls' := [some (.ref p), some (.int x)]) (st' := [.int (b2i (if (gI h p 0) = 4 then (if (((gI h p 1) >>> ((x : Int32) &&& 31)) &&& 1) = 1 then (true) else (false)) else (if (gI h p 1) = x then (true) else (false))))]) (fun kj6 => ?_) ?_
      · skip
        refine e_ic (pc' := 26) i29_23 rfl (fun c7 => ?_) (fun c7 => ?_)
        · have d8 : ¬ ((gI h p 0) = 4) := (of_decide_eq_true c7)
          refine e_ld (pc' := 47) i29_46 rfl rfl ?_
          refine e_get (w := .int (gI h p 1)) (pc' := 50) i29_47 rfl (x_isP hp hw.1) rfl ?_
          refine e_ld (pc' := 51) i29_50 rfl rfl ?_
          refine e_reg (pc' := 59) (ls' := [some (.ref p), some (.int x)]) (st' := [.int (b2i (if (gI h p 1) = x then (true) else (false)))]) (fun kj9 => ?_) ?_
          · skip
            refine e_ic (pc' := 54) i29_51 rfl (fun c10 => ?_) (fun c10 => ?_)
            · have d11 : ¬ ((gI h p 1) = x) := (of_decide_eq_true c10)
              refine e_cn (pc' := 59) i29_58 rfl ?_
              exact (by simp only [if_neg d11] at kj9 ⊢; exact kj9)
            · have d12 : (gI h p 1) = x := (Decidable.not_not.mp (of_decide_eq_false c10))
              refine e_cn (pc' := 55) i29_54 rfl ?_
              refine e_go i29_55 ?_
              exact (by simp only [if_pos d12] at kj9 ⊢; exact kj9)
          exact (by simp only [if_neg d8] at kj6 ⊢; exact kj6)
        · have d13 : (gI h p 0) = 4 := (Decidable.not_not.mp (of_decide_eq_false c7))
          refine e_ld (pc' := 27) i29_26 rfl rfl ?_
          refine e_get (w := .int (gI h p 1)) (pc' := 30) i29_27 rfl (x_isP hp hw.1) rfl ?_
          refine e_ld (pc' := 31) i29_30 rfl rfl ?_
          refine e_ib (z := (gI h p 1) >>> ((x : Int32) &&& 31)) (pc' := 32) i29_31 rfl rfl ?_
          refine e_cn (pc' := 33) i29_32 rfl ?_
          refine e_ib (z := ((gI h p 1) >>> ((x : Int32) &&& 31)) &&& 1) (pc' := 34) i29_33 rfl rfl ?_
          refine e_cn (pc' := 35) i29_34 rfl ?_
          refine e_reg (pc' := 59) (ls' := [some (.ref p), some (.int x)]) (st' := [.int (b2i (if (((gI h p 1) >>> ((x : Int32) &&& 31)) &&& 1) = 1 then (true) else (false)))]) (fun kj14 => ?_) ?_
          · skip
            refine e_ic (pc' := 38) i29_35 rfl (fun c15 => ?_) (fun c15 => ?_)
            · have d16 : ¬ ((((gI h p 1) >>> ((x : Int32) &&& 31)) &&& 1) = 1) := (of_decide_eq_true c15)
              refine e_cn (pc' := 43) i29_42 rfl ?_
              refine e_go i29_43 ?_
              exact (by simp only [if_neg d16] at kj14 ⊢; exact kj14)
            · have d17 : (((gI h p 1) >>> ((x : Int32) &&& 31)) &&& 1) = 1 := (Decidable.not_not.mp (of_decide_eq_false c15))
              refine e_cn (pc' := 39) i29_38 rfl ?_
              refine e_go i29_39 ?_
              exact (by simp only [if_pos d17] at kj14 ⊢; exact kj14)
          exact (by simp only [if_pos d13] at kj6 ⊢; exact kj6)
      refine e_rt (r := some (.int (b2i (if (gI h p 0) = 4 then (if (((gI h p 1) >>> ((x : Int32) &&& 31)) &&& 1) = 1 then (true) else (false)) else (if (gI h p 1) = x then (true) else (false)))))) i29_59 (by simp only [x_rt, show MR 29 = some .boolean by decide +kernel, b2i_01, cond_true]) ?_
      exact H
    · have d18 : (gI h p 0) = 7 := (Decidable.not_not.mp (of_decide_eq_false c4))
      replace H := H.1 d18
      refine e_cn (pc' := 17) i29_16 rfl ?_
      refine e_rt i29_17 rfl ?_
      exact H
