/-! Conditions of methods (made by wip/whole/vcmake.py). -/
-- FloorTurn$Book.enter(LFloorTurn$Recipe;)I
set_option maxHeartbeats 8000000 in
set_option maxRecDepth 100000 in
theorem v1 {L : Nat} {xs : Nat → Int32} {Q : Option Value → Hp → Prop} {h : Hp} {q : Nat} (hw : HW h) (hq : RQ q h.1)
  (H : (((gI h 2 1) < 8) → (∃ k3 : Nat, (gI h 2 1) = nI k3 ∧ k3 < 8 ∧ Q (some (.int ((gI (sI (sR h 3 k3 (some q)) 2 1 ((gI h 2 1) + 1)) 2 1) - 1))) (sI (sR h 3 k3 (some q)) 2 1 ((gI h 2 1) + 1)))) ∧ (¬ ((gI h 2 1) < 8) → (Q (some (.int (-1))) h))) : ∃ r h', Sp L xs 1 [.ref 2, .ref q] h r h' ∧ Q r h' := by
  refine sp_ex (ls := [some (.ref 2), some (.ref q)]) rfl ?_
  refine e_ld (pc' := 1) i1_0 rfl rfl ?_
  refine e_get (w := .int (gI h 2 1)) (pc' := 4) i1_1 rfl (x_isC (by decide) hw.1 sh2) rfl ?_
  refine e_cn (pc' := 6) i1_4 rfl ?_
  refine e_ic (pc' := 9) i1_6 rfl (fun c1 => ?_) (fun c1 => ?_)
  · have d2 : (gI h 2 1) < 8 := (of_decide_eq_true c1)
    replace H := H.1 d2
    refine e_ld (pc' := 12) i1_11 rfl rfl ?_
    refine e_get (w := .ref 3) (pc' := 15) i1_12 rfl (x_isC (by decide) hw.1 sh2) (x_fvR (by decide +kernel) (hw.2 2 0 3 lk2_0)) ?_
    refine e_ld (pc' := 16) i1_15 rfl rfl ?_
    refine e_get (w := .int (gI h 2 1)) (pc' := 19) i1_16 rfl (x_isC (by decide) hw.1 sh2) rfl ?_
    refine e_ld (pc' := 20) i1_19 rfl rfl ?_
    obtain ⟨k3, e4, g5, H⟩ := H
    refine e_as (n := k3) (h' := sR h 3 k3 (some q)) (pc' := 21) i1_20 rfl (x_alE (a := 23) (by decide) hw.1 sh3 (by decide) e4 g5 (by decide)) (x_clE e4 g5 (by decide)) (x_apR sh3 (x_isV hq.1 hq.2)) ?_
    have w7 : HW (sR h 3 k3 (some q)) := HW_sR3 hw
    refine e_ld (pc' := 22) i1_21 rfl rfl ?_
    refine e_stk (pc' := 23) i1_22 rfl rfl ?_
    refine e_get (w := .int (gI h 2 1)) (pc' := 26) i1_23 rfl (x_isC (by decide) w7.1 sh2) (congrArg Value.int gI_psR) ?_
    refine e_cn (pc' := 27) i1_26 rfl ?_
    refine e_ib (z := (gI h 2 1) + 1) (pc' := 28) i1_27 rfl rfl ?_
    refine e_put (h' := sI (sR h 3 k3 (some q)) 2 1 ((gI h 2 1) + 1)) (pc' := 31) i1_28 rfl (x_isC (by decide) w7.1 sh2) rfl ?_
    have w9 : HW (sI (sR h 3 k3 (some q)) 2 1 ((gI h 2 1) + 1)) := HW_sI w7
    refine e_ld (pc' := 32) i1_31 rfl rfl ?_
    refine e_get (w := .int (gI (sI (sR h 3 k3 (some q)) 2 1 ((gI h 2 1) + 1)) 2 1)) (pc' := 35) i1_32 rfl (x_isC (by decide) w9.1 sh2) rfl ?_
    refine e_cn (pc' := 36) i1_35 rfl ?_
    refine e_ib (z := (gI (sI (sR h 3 k3 (some q)) 2 1 ((gI h 2 1) + 1)) 2 1) - 1) (pc' := 37) i1_36 rfl rfl ?_
    refine e_rt i1_37 rfl ?_
    exact H
  · have d8 : ¬ ((gI h 2 1) < 8) := (of_decide_eq_false c1)
    replace H := H.2 d8
    refine e_cn (pc' := 10) i1_9 rfl ?_
    refine e_rt i1_10 rfl ?_
    exact H
-- FloorTurn$Book.numbered(I)LFloorTurn$Recipe;
set_option maxHeartbeats 8000000 in
set_option maxRecDepth 100000 in
theorem v2 {L : Nat} {xs : Nat → Int32} {Q : Option Value → Hp → Prop} {h : Hp} {x : Int32} (hw : HW h) 
  (H : ((x < 0) → (Q (some (x_rv none)) h)) ∧ (¬ (x < 0) → ((((gI h 2 1) ≤ x) → (Q (some (x_rv none)) h)) ∧ (¬ ((gI h 2 1) ≤ x) → (∃ k7 : Nat, x = nI k7 ∧ k7 < 8 ∧ (gR h 3 k7 = none → (Q (some (x_rv none)) h)) ∧ (∀ q11 : Nat, gR h 3 k7 = some q11 → (Q (some (x_rv (some q11))) h))))))) : ∃ r h', Sp L xs 2 [.ref 2, .int x] h r h' ∧ Q r h' := by
  refine sp_ex (ls := [some (.ref 2), some (.int x)]) rfl ?_
  refine e_ld (pc' := 1) i2_0 rfl rfl ?_
  refine e_if (pc' := 4) i2_1 rfl (fun c1 => ?_) (fun c1 => ?_)
  · have d2 : x < 0 := (of_decide_eq_true c1)
    replace H := H.1 d2
    refine e_cn (pc' := 22) i2_21 rfl ?_
    refine e_rt i2_22 rfl ?_
    exact H
  · have d3 : ¬ (x < 0) := (of_decide_eq_false c1)
    replace H := H.2 d3
    refine e_ld (pc' := 5) i2_4 rfl rfl ?_
    refine e_ld (pc' := 6) i2_5 rfl rfl ?_
    refine e_get (w := .int (gI h 2 1)) (pc' := 9) i2_6 rfl (x_isC (by decide) hw.1 sh2) rfl ?_
    refine e_ic (pc' := 12) i2_9 rfl (fun c4 => ?_) (fun c4 => ?_)
    · have d5 : (gI h 2 1) ≤ x := (of_decide_eq_true c4)
      replace H := H.1 d5
      refine e_cn (pc' := 22) i2_21 rfl ?_
      refine e_rt i2_22 rfl ?_
      exact H
    · have d6 : ¬ ((gI h 2 1) ≤ x) := (of_decide_eq_false c4)
      replace H := H.2 d6
      refine e_ld (pc' := 13) i2_12 rfl rfl ?_
      refine e_get (w := .ref 3) (pc' := 16) i2_13 rfl (x_isC (by decide) hw.1 sh2) (x_fvR (by decide +kernel) (hw.2 2 0 3 lk2_0)) ?_
      refine e_ld (pc' := 17) i2_16 rfl rfl ?_
      obtain ⟨k7, e8, g9, H⟩ := H
      cases hr10 : gR h 3 k7 with
      | none =>
        replace H := H.1 hr10
        refine e_al (n := k7) (w := .null) (pc' := 18) i2_17 rfl (x_alE (a := 23) (by decide) hw.1 sh3 (by decide) e8 g9 (by decide)) (x_clE e8 g9 (by decide)) (x_agN hr10) ?_
        refine e_go i2_18 ?_
        refine e_rt i2_22 rfl ?_
        exact H
      | some q11 =>
        replace H := H.2 _ hr10
        refine e_al (n := k7) (w := .ref q11) (pc' := 18) i2_17 rfl (x_alE (a := 23) (by decide) hw.1 sh3 (by decide) e8 g9 (by decide)) (x_clE e8 g9 (by decide)) (x_agR hr10) ?_
        refine e_go i2_18 ?_
        refine e_rt i2_22 rfl ?_
        exact H
-- FloorTurn$Book.makerOf(I)I
set_option maxHeartbeats 8000000 in
set_option maxRecDepth 100000 in
theorem v3 {L : Nat} {xs : Nat → Int32} {Q : Option Value → Hp → Prop} {h : Hp} {x : Int32} (hw : HW h) 
  (H : WP L xs 3 2 [some (.ref 2), some (.int x), some (.int 0)] [] h Q) : ∃ r h', Sp L xs 3 [.ref 2, .int x] h r h' ∧ Q r h' := by
  refine sp_ex (ls := [some (.ref 2), some (.int x), none]) rfl ?_
  refine e_cn (pc' := 1) i3_0 rfl ?_
  refine e_st (ls' := [some (.ref 2), some (.int x), some (.int 0)]) (pc' := 2) i3_1 rfl rfl rfl ?_
  exact H
set_option maxHeartbeats 8000000 in
set_option maxRecDepth 100000 in
theorem v3_2 {L : Nat} {xs : Nat → Int32} {Q : Option Value → Hp → Prop} {h : Hp} {l1 : Int32} {l2 : Int32} (hw : HW h) 
  (H : (((gI h 2 1) ≤ l2) → (Q (some (.int (-1))) h)) ∧ (¬ ((gI h 2 1) ≤ l2) → (∃ k4 : Nat, l2 = nI k4 ∧ k4 < 8 ∧ (gR h 3 k4 = none → (False)) ∧ (∀ q8 : Nat, gR h 3 k4 = some q8 → ((RQ q8 h.1) ∧ (((gI h q8 0) = l1) → (Q (some (.int l2)) h)) ∧ (¬ ((gI h q8 0) = l1) → (WP L xs 3 2 [some (.ref 2), some (.int l1), some (.int (l2 + 1))] [] h Q))))))) : WP L xs 3 2 [some (.ref 2), some (.int l1), some (.int l2)] [] h Q := by
  refine e_ld (pc' := 3) i3_2 rfl rfl ?_
  refine e_ld (pc' := 4) i3_3 rfl rfl ?_
  refine e_get (w := .int (gI h 2 1)) (pc' := 7) i3_4 rfl (x_isC (by decide) hw.1 sh2) rfl ?_
  refine e_ic (pc' := 10) i3_7 rfl (fun c1 => ?_) (fun c1 => ?_)
  · have d2 : (gI h 2 1) ≤ l2 := (of_decide_eq_true c1)
    replace H := H.1 d2
    refine e_cn (pc' := 32) i3_31 rfl ?_
    refine e_rt i3_32 rfl ?_
    exact H
  · have d3 : ¬ ((gI h 2 1) ≤ l2) := (of_decide_eq_false c1)
    replace H := H.2 d3
    refine e_ld (pc' := 11) i3_10 rfl rfl ?_
    refine e_get (w := .ref 3) (pc' := 14) i3_11 rfl (x_isC (by decide) hw.1 sh2) (x_fvR (by decide +kernel) (hw.2 2 0 3 lk2_0)) ?_
    refine e_ld (pc' := 15) i3_14 rfl rfl ?_
    obtain ⟨k4, e5, g6, H⟩ := H
    cases hr7 : gR h 3 k4 with
    | none =>
      replace H := H.1 hr7
      refine e_al (n := k4) (w := .null) (pc' := 16) i3_15 rfl (x_alE (a := 23) (by decide) hw.1 sh3 (by decide) e5 g6 (by decide)) (x_clE e5 g6 (by decide)) (x_agN hr7) ?_
      exact H.elim
    | some q8 =>
      replace H := H.2 _ hr7
      refine e_al (n := k4) (w := .ref q8) (pc' := 16) i3_15 rfl (x_alE (a := 23) (by decide) hw.1 sh3 (by decide) e5 g6 (by decide)) (x_clE e5 g6 (by decide)) (x_agR hr7) ?_
      obtain ⟨g9, H⟩ := H
      refine e_get (w := .int (gI h q8 0)) (pc' := 19) i3_16 rfl (x_isV g9.1 g9.2) rfl ?_
      refine e_ld (pc' := 20) i3_19 rfl rfl ?_
      refine e_ic (pc' := 23) i3_20 rfl (fun c10 => ?_) (fun c10 => ?_)
      · have d11 : ¬ ((gI h q8 0) = l1) := (of_decide_eq_true c10)
        replace H := H.2 d11
        refine e_inc (z := l2 + 1) (ls' := [some (.ref 2), some (.int l1), some (.int (l2 + 1))]) (pc' := 28) i3_25 rfl rfl rfl rfl ?_
        refine e_go i3_28 ?_
        exact H
      · have d12 : (gI h q8 0) = l1 := (Decidable.not_not.mp (of_decide_eq_false c10))
        replace H := H.1 d12
        refine e_ld (pc' := 24) i3_23 rfl rfl ?_
        refine e_rt i3_24 rfl ?_
        exact H
-- FloorTurn$Finder.seek(LFloorTurn$Floor;I)Z
set_option maxHeartbeats 8000000 in
set_option maxRecDepth 100000 in
theorem v5 {L : Nat} {xs : Nat → Int32} {Q : Option Value → Hp → Prop} {h : Hp} {y : Int32} (hw : HW h) 
  (H : ∃ (h1 : Hp), Sp L xs 15 [.ref 240, .ref 4] h none h1 ∧ ∃ (h5 : Hp), Sp L xs 6 [.ref 235, .int 0] (sI h1 235 5 0) none h5 ∧ WP L xs 5 20 [some (.ref 235), some (.ref 4), some (.int y), some (.int 1), none] [] h5 Q) : ∃ r h', Sp L xs 5 [.ref 235, .ref 4, .int y] h r h' ∧ Q r h' := by
  refine sp_ex (ls := [some (.ref 235), some (.ref 4), some (.int y), none, none]) rfl ?_
  refine e_ld (pc' := 1) i5_0 rfl rfl ?_
  refine e_get (w := .ref 240) (pc' := 4) i5_1 rfl (x_isC (by decide) hw.1 sh235) (x_fvR (by decide +kernel) (hw.2 235 0 240 lk235_0)) ?_
  refine e_ld (pc' := 5) i5_4 rfl rfl ?_
  obtain ⟨h1, s2, H⟩ := H
  have w4q := HW_sp (show x_okm 15 = true by rfl) s2 hw
  have w4 : HW h1 := w4q.1
  refine e_cV (As := [.ref 240, .ref 4]) (rest := []) (pc' := 8) i5_5 rfl rfl rfl rfl (by show (Nat.beq (x_kd 15) 0 && x_is 240 _ (MC 15) 0) = true; rw [show x_kd 15 = 0 by decide +kernel, show MC 15 = 2 by decide +kernel, (x_isC (by decide) hw.1 sh240)]; rfl) s2 ?_
  refine e_ld (pc' := 9) i5_8 rfl rfl ?_
  refine e_cn (pc' := 10) i5_9 rfl ?_
  refine e_put (h' := sI h1 235 5 0) (pc' := 13) i5_10 rfl (x_isC (by decide) w4.1 sh235) rfl ?_
  have w6 : HW (sI h1 235 5 0) := HW_sI w4
  refine e_ld (pc' := 14) i5_13 rfl rfl ?_
  refine e_cn (pc' := 15) i5_14 rfl ?_
  obtain ⟨h5, s6, H⟩ := H
  have w10q := HW_sp (show x_okm 6 = true by rfl) s6 w6
  have w10 : HW h5 := w10q.1
  refine e_cV (As := [.ref 235, .int 0]) (rest := []) (pc' := 18) i5_15 rfl rfl rfl rfl (by show (Nat.beq (x_kd 6) 0 && x_is 235 _ (MC 6) 0) = true; rw [show x_kd 6 = 0 by decide +kernel, show MC 6 = 1 by decide +kernel, (x_isC (by decide) w6.1 sh235)]; rfl) s6 ?_
  refine e_cn (pc' := 19) i5_18 rfl ?_
  refine e_st (ls' := [some (.ref 235), some (.ref 4), some (.int y), some (.int 1), none]) (pc' := 20) i5_19 rfl rfl rfl ?_
  exact H
set_option maxHeartbeats 8000000 in
set_option maxRecDepth 100000 in
theorem v5_20 {L : Nat} {xs : Nat → Int32} {Q : Option Value → Hp → Prop} {h : Hp} {z1 : Option Value} {l2 : Int32} {l3 : Int32} {z4 : Option Value} (hw : HW h) 
  (H : ((l2 < l3) → ((x_ok01 (gI h 235 5) = true) ∧ Q (some (.int (gI h 235 5))) h)) ∧ (¬ (l2 < l3) → ((((gI h 235 5) = 0) → (∃ (r11 : Int32) (h9 : Hp), Sp L xs 16 [.ref 240] h (some (.int r11)) h9 ∧ ∃ (h13 : Hp), Sp L xs 6 [.ref 235, .int l3] h9 none h13 ∧ ∃ (r17 : Int32), Sp L xs 7 [.ref 235, .int l3] h13 (some (.int r17)) h13 ∧ ((r17 = (-1)) → (WP L xs 5 20 [some (.ref 235), z1, some (.int l2), some (.int (l3 + 1)), some (.int r17)] [] h13 Q)) ∧ (¬ (r17 = (-1)) → (WP L xs 5 20 [some (.ref 235), z1, some (.int l2), some (.int (l3 + 1)), some (.int r17)] [] (sI (sI (sI h13 235 5 1) 235 6 r17) 235 7 (l3 - r17)) Q)))) ∧ (¬ ((gI h 235 5) = 0) → ((x_ok01 (gI h 235 5) = true) ∧ Q (some (.int (gI h 235 5))) h))))) : WP L xs 5 20 [some (.ref 235), z1, some (.int l2), some (.int l3), z4] [] h Q := by
  refine e_ld (pc' := 21) i5_20 rfl rfl ?_
  refine e_ld (pc' := 22) i5_21 rfl rfl ?_
  refine e_ic (pc' := 25) i5_22 rfl (fun c1 => ?_) (fun c1 => ?_)
  · have d2 : l2 < l3 := (of_decide_eq_true c1)
    replace H := H.1 d2
    refine e_ld (pc' := 84) i5_83 rfl rfl ?_
    refine e_get (w := .int (gI h 235 5)) (pc' := 87) i5_84 rfl (x_isC (by decide) hw.1 sh235) rfl ?_
    obtain ⟨g3, H⟩ := H
    refine e_rt (r := some (.int (gI h 235 5))) i5_87 (by simp only [x_rt, show MR 5 = some .boolean by decide +kernel, g3, cond_true]) ?_
    exact H
  · have d4 : ¬ (l2 < l3) := (of_decide_eq_false c1)
    replace H := H.2 d4
    refine e_ld (pc' := 26) i5_25 rfl rfl ?_
    refine e_get (w := .int (gI h 235 5)) (pc' := 29) i5_26 rfl (x_isC (by decide) hw.1 sh235) rfl ?_
    refine e_if (pc' := 32) i5_29 rfl (fun c5 => ?_) (fun c5 => ?_)
    · have d6 : ¬ ((gI h 235 5) = 0) := (of_decide_eq_true c5)
      replace H := H.2 d6
      refine e_ld (pc' := 84) i5_83 rfl rfl ?_
      refine e_get (w := .int (gI h 235 5)) (pc' := 87) i5_84 rfl (x_isC (by decide) hw.1 sh235) rfl ?_
      obtain ⟨g7, H⟩ := H
      refine e_rt (r := some (.int (gI h 235 5))) i5_87 (by simp only [x_rt, show MR 5 = some .boolean by decide +kernel, g7, cond_true]) ?_
      exact H
    · have d8 : (gI h 235 5) = 0 := (Decidable.not_not.mp (of_decide_eq_false c5))
      replace H := H.1 d8
      refine e_ld (pc' := 33) i5_32 rfl rfl ?_
      refine e_get (w := .ref 240) (pc' := 36) i5_33 rfl (x_isC (by decide) hw.1 sh235) (x_fvR (by decide +kernel) (hw.2 235 0 240 lk235_0)) ?_
      obtain ⟨r11, h9, s10, H⟩ := H
      have w13q := HW_sp (show x_okm 16 = true by rfl) s10 hw
      have w13 : HW h9 := w13q.1
      refine e_cI (w := .int r11) (As := [.ref 240]) (rest := []) (pc' := 39) i5_36 rfl rfl rfl rfl (by show (Nat.beq (x_kd 16) 0 && x_is 240 _ (MC 16) 0) = true; rw [show x_kd 16 = 0 by decide +kernel, show MC 16 = 2 by decide +kernel, (x_isC (by decide) hw.1 sh240)]; rfl) s10 ?_
      refine e_stk (pc' := 40) i5_39 rfl rfl ?_
      refine e_ld (pc' := 41) i5_40 rfl rfl ?_
      refine e_ld (pc' := 42) i5_41 rfl rfl ?_
      obtain ⟨h13, s14, H⟩ := H
      have w17q := HW_sp (show x_okm 6 = true by rfl) s14 w13
      have w17 : HW h13 := w17q.1
      refine e_cV (As := [.ref 235, .int l3]) (rest := []) (pc' := 45) i5_42 rfl rfl rfl rfl (by show (Nat.beq (x_kd 6) 0 && x_is 235 _ (MC 6) 0) = true; rw [show x_kd 6 = 0 by decide +kernel, show MC 6 = 1 by decide +kernel, (x_isC (by decide) w13.1 sh235)]; rfl) s14 ?_
      refine e_ld (pc' := 46) i5_45 rfl rfl ?_
      refine e_ld (pc' := 47) i5_46 rfl rfl ?_
      obtain ⟨r17, s16, H⟩ := H
      refine e_cI (w := .int r17) (As := [.ref 235, .int l3]) (rest := []) (pc' := 50) i5_47 rfl rfl rfl rfl (by show (Nat.beq (x_kd 7) 0 && x_is 235 _ (MC 7) 0) = true; rw [show x_kd 7 = 0 by decide +kernel, show MC 7 = 1 by decide +kernel, (x_isC (by decide) w17.1 sh235)]; rfl) s16 ?_
      refine e_st (ls' := [some (.ref 235), z1, some (.int l2), some (.int l3), some (.int r17)]) (pc' := 52) i5_50 rfl rfl rfl ?_
      refine e_ld (pc' := 54) i5_52 rfl rfl ?_
      refine e_cn (pc' := 55) i5_54 rfl ?_
      refine e_ic (pc' := 58) i5_55 rfl (fun c18 => ?_) (fun c18 => ?_)
      · have d19 : r17 = (-1) := (of_decide_eq_true c18)
        replace H := H.1 d19
        refine e_inc (z := l3 + 1) (ls' := [some (.ref 235), z1, some (.int l2), some (.int (l3 + 1)), some (.int r17)]) (pc' := 80) i5_77 rfl rfl rfl rfl ?_
        refine e_go i5_80 ?_
        exact H
      · have d20 : ¬ (r17 = (-1)) := (of_decide_eq_false c18)
        replace H := H.2 d20
        refine e_ld (pc' := 59) i5_58 rfl rfl ?_
        refine e_cn (pc' := 60) i5_59 rfl ?_
        refine e_put (h' := sI h13 235 5 1) (pc' := 63) i5_60 rfl (x_isC (by decide) w17.1 sh235) rfl ?_
        have w24 : HW (sI h13 235 5 1) := HW_sI w17
        refine e_ld (pc' := 64) i5_63 rfl rfl ?_
        refine e_ld (pc' := 66) i5_64 rfl rfl ?_
        refine e_put (h' := sI (sI h13 235 5 1) 235 6 r17) (pc' := 69) i5_66 rfl (x_isC (by decide) w24.1 sh235) rfl ?_
        have w26 : HW (sI (sI h13 235 5 1) 235 6 r17) := HW_sI w24
        refine e_ld (pc' := 70) i5_69 rfl rfl ?_
        refine e_ld (pc' := 71) i5_70 rfl rfl ?_
        refine e_ld (pc' := 73) i5_71 rfl rfl ?_
        refine e_ib (z := l3 - r17) (pc' := 74) i5_73 rfl rfl ?_
        refine e_put (h' := sI (sI (sI h13 235 5 1) 235 6 r17) 235 7 (l3 - r17)) (pc' := 77) i5_74 rfl (x_isC (by decide) w26.1 sh235) rfl ?_
        have w28 : HW (sI (sI (sI h13 235 5 1) 235 6 r17) 235 7 (l3 - r17)) := HW_sI w26
        refine e_inc (z := l3 + 1) (ls' := [some (.ref 235), z1, some (.int l2), some (.int (l3 + 1)), some (.int r17)]) (pc' := 80) i5_77 rfl rfl rfl rfl ?_
        refine e_go i5_80 ?_
        exact H
-- FloorTurn$Finder.keepState(I)V
set_option maxHeartbeats 8000000 in
set_option maxRecDepth 100000 in
theorem v6 {L : Nat} {xs : Nat → Int32} {Q : Option Value → Hp → Prop} {h : Hp} {x : Int32} (hw : HW h) 
  (H : WP L xs 6 5 [some (.ref 235), some (.int x), some (.long 0), none, some (.int 0), none, none] [] h Q) : ∃ r h', Sp L xs 6 [.ref 235, .int x] h r h' ∧ Q r h' := by
  refine sp_ex (ls := [some (.ref 235), some (.int x), none, none, none, none, none]) rfl ?_
  refine e_cn (pc' := 1) i6_0 rfl ?_
  refine e_st (ls' := [some (.ref 235), some (.int x), some (.long 0), none, none, none, none]) (pc' := 2) i6_1 rfl rfl rfl ?_
  refine e_cn (pc' := 3) i6_2 rfl ?_
  refine e_st (ls' := [some (.ref 235), some (.int x), some (.long 0), none, some (.int 0), none, none]) (pc' := 5) i6_3 rfl rfl rfl ?_
  exact H
set_option maxHeartbeats 8000000 in
set_option maxRecDepth 100000 in
theorem v6_5 {L : Nat} {xs : Nat → Int32} {Q : Option Value → Hp → Prop} {h : Hp} {l1 : Int32} {l2 : Int64} {l4 : Int32} {z5 : Option Value} {z6 : Option Value} (hw : HW h) 
  (H : ((144 ≤ l4) → (∃ k3 : Nat, l1 = nI k3 ∧ k3 < 401 ∧ Q none (sL h 237 k3 l2))) ∧ (¬ (144 ≤ l4) → (∃ k8 : Nat, l4 = nI k8 ∧ k8 < 144 ∧ ∃ (r12 : Int64), Sp L xs 40 [.ref (246 + k8)] h (some (.long r12)) h ∧ ∃ k13 : Nat, ((l1 * 144) + l4) = nI k13 ∧ k13 < 57744 ∧ WP L xs 6 5 [some (.ref 235), some (.int l1), some (.long ((l2 * 1000003) + r12)), none, some (.int (l4 + 1)), some (.long r12), none] [] (sL h 236 k13 r12) Q))) : WP L xs 6 5 [some (.ref 235), some (.int l1), some (.long l2), none, some (.int l4), z5, z6] [] h Q := by
  refine e_ld (pc' := 7) i6_5 rfl rfl ?_
  refine e_cn (pc' := 10) i6_7 rfl ?_
  refine e_ic (pc' := 13) i6_10 rfl (fun c1 => ?_) (fun c1 => ?_)
  · have d2 : 144 ≤ l4 := (of_decide_eq_true c1)
    replace H := H.1 d2
    refine e_ld (pc' := 59) i6_58 rfl rfl ?_
    refine e_get (w := .ref 237) (pc' := 62) i6_59 rfl (x_isC (by decide) hw.1 sh235) (x_fvR (by decide +kernel) (hw.2 235 2 237 lk235_2)) ?_
    refine e_ld (pc' := 63) i6_62 rfl rfl ?_
    refine e_ld (pc' := 64) i6_63 rfl rfl ?_
    obtain ⟨k3, e4, g5, H⟩ := H
    refine e_as (n := k3) (h' := sL h 237 k3 l2) (pc' := 65) i6_64 rfl (x_alE (a := 21) (by decide) hw.1 sh237 (by decide) e4 g5 (by decide)) (x_clE e4 g5 (by decide)) (by rw [(show (SH 237).1 = 21 by rw [sh237])]; rfl) ?_
    have w7 : HW (sL h 237 k3 l2) := HW_sL hw
    refine e_rt i6_65 rfl ?_
    exact H
  · have d7 : ¬ (144 ≤ l4) := (of_decide_eq_false c1)
    replace H := H.2 d7
    refine e_ld (pc' := 14) i6_13 rfl rfl ?_
    refine e_get (w := .ref 240) (pc' := 17) i6_14 rfl (x_isC (by decide) hw.1 sh235) (x_fvR (by decide +kernel) (hw.2 235 0 240 lk235_0)) ?_
    refine e_get (w := .ref 241) (pc' := 20) i6_17 rfl (x_isC (by decide) hw.1 sh240) (x_fvR (by decide +kernel) (hw.2 240 1 241 lk240_1)) ?_
    refine e_ld (pc' := 22) i6_20 rfl rfl ?_
    obtain ⟨k8, e9, g10, H⟩ := H
    refine e_al (n := k8) (w := .ref (246 + k8)) (pc' := 23) i6_22 rfl (x_alE (a := 23) (by decide) hw.1 sh241 (by decide) e9 g10 (by decide)) (x_clE e9 g10 (by decide)) (x_agR (hw.2 _ _ _ (LK_p240 g10))) ?_
    obtain ⟨r12, s11, H⟩ := H
    refine e_cI (w := .long r12) (As := [.ref (246 + k8)]) (rest := []) (pc' := 26) i6_23 rfl rfl rfl rfl (by show (Nat.beq (x_kd 40) 0 && x_is (246 + k8) _ (MC 40) 0) = true; rw [show x_kd 40 = 0 by decide +kernel, show MC 40 = 3 by decide +kernel, (x_isP (PT_240 g10) hw.1)]; rfl) s11 ?_
    refine e_st (ls' := [some (.ref 235), some (.int l1), some (.long l2), none, some (.int l4), some (.long r12), none]) (pc' := 28) i6_26 rfl rfl rfl ?_
    refine e_ld (pc' := 29) i6_28 rfl rfl ?_
    refine e_get (w := .ref 236) (pc' := 32) i6_29 rfl (x_isC (by decide) hw.1 sh235) (x_fvR (by decide +kernel) (hw.2 235 1 236 lk235_1)) ?_
    refine e_ld (pc' := 33) i6_32 rfl rfl ?_
    refine e_cn (pc' := 36) i6_33 rfl ?_
    refine e_ib (z := l1 * 144) (pc' := 37) i6_36 rfl rfl ?_
    refine e_ld (pc' := 39) i6_37 rfl rfl ?_
    refine e_ib (z := (l1 * 144) + l4) (pc' := 40) i6_39 rfl rfl ?_
    refine e_ld (pc' := 42) i6_40 rfl rfl ?_
    obtain ⟨k13, e14, g15, H⟩ := H
    refine e_as (n := k13) (h' := sL h 236 k13 r12) (pc' := 43) i6_42 rfl (x_alE (a := 21) (by decide) hw.1 sh236 (by decide) e14 g15 (by decide)) (x_clE e14 g15 (by decide)) (by rw [(show (SH 236).1 = 21 by rw [sh236])]; rfl) ?_
    have w17 : HW (sL h 236 k13 r12) := HW_sL hw
    refine e_ld (pc' := 44) i6_43 rfl rfl ?_
    refine e_cn (pc' := 47) i6_44 rfl ?_
    refine e_lb (z := l2 * 1000003) (pc' := 48) i6_47 rfl rfl ?_
    refine e_ld (pc' := 50) i6_48 rfl rfl ?_
    refine e_lb (z := (l2 * 1000003) + r12) (pc' := 51) i6_50 rfl rfl ?_
    refine e_st (ls' := [some (.ref 235), some (.int l1), some (.long ((l2 * 1000003) + r12)), none, some (.int l4), some (.long r12), none]) (pc' := 52) i6_51 rfl rfl rfl ?_
    refine e_inc (z := l4 + 1) (ls' := [some (.ref 235), some (.int l1), some (.long ((l2 * 1000003) + r12)), none, some (.int (l4 + 1)), some (.long r12), none]) (pc' := 55) i6_52 rfl rfl rfl rfl ?_
    refine e_go i6_55 ?_
    exact H
-- FloorTurn$Finder.earlierLike(I)I
set_option maxHeartbeats 8000000 in
set_option maxRecDepth 100000 in
theorem v7 {L : Nat} {xs : Nat → Int32} {Q : Option Value → Hp → Prop} {h : Hp} {x : Int32} (hw : HW h) 
  (H : WP L xs 7 2 [some (.ref 235), some (.int x), some (.int 0)] [] h Q) : ∃ r h', Sp L xs 7 [.ref 235, .int x] h r h' ∧ Q r h' := by
  refine sp_ex (ls := [some (.ref 235), some (.int x), none]) rfl ?_
  refine e_cn (pc' := 1) i7_0 rfl ?_
  refine e_st (ls' := [some (.ref 235), some (.int x), some (.int 0)]) (pc' := 2) i7_1 rfl rfl rfl ?_
  exact H
set_option maxHeartbeats 8000000 in
set_option maxRecDepth 100000 in
theorem v7_2 {L : Nat} {xs : Nat → Int32} {Q : Option Value → Hp → Prop} {h : Hp} {l1 : Int32} {l2 : Int32} (hw : HW h) 
  (H : ((l1 ≤ l2) → (Q (some (.int (-1))) h)) ∧ (¬ (l1 ≤ l2) → (∃ k4 : Nat, l2 = nI k4 ∧ k4 < 401 ∧ ∃ k7 : Nat, l1 = nI k7 ∧ k7 < 401 ∧ (((lg_cmp (gL h 237 k4) (gL h 237 k7)) = 0) → (∃ (r14 : Int32), Sp L xs 8 [.ref 235, .int l2, .int l1] h (some (.int r14)) h ∧ ((r14 = 0) → (WP L xs 7 2 [some (.ref 235), some (.int l1), some (.int (l2 + 1))] [] h Q)) ∧ (¬ (r14 = 0) → (Q (some (.int l2)) h)))) ∧ (¬ ((lg_cmp (gL h 237 k4) (gL h 237 k7)) = 0) → (WP L xs 7 2 [some (.ref 235), some (.int l1), some (.int (l2 + 1))] [] h Q))))) : WP L xs 7 2 [some (.ref 235), some (.int l1), some (.int l2)] [] h Q := by
  refine e_ld (pc' := 3) i7_2 rfl rfl ?_
  refine e_ld (pc' := 4) i7_3 rfl rfl ?_
  refine e_ic (pc' := 7) i7_4 rfl (fun c1 => ?_) (fun c1 => ?_)
  · have d2 : l1 ≤ l2 := (of_decide_eq_true c1)
    replace H := H.1 d2
    refine e_cn (pc' := 41) i7_40 rfl ?_
    refine e_rt i7_41 rfl ?_
    exact H
  · have d3 : ¬ (l1 ≤ l2) := (of_decide_eq_false c1)
    replace H := H.2 d3
    refine e_ld (pc' := 8) i7_7 rfl rfl ?_
    refine e_get (w := .ref 237) (pc' := 11) i7_8 rfl (x_isC (by decide) hw.1 sh235) (x_fvR (by decide +kernel) (hw.2 235 2 237 lk235_2)) ?_
    refine e_ld (pc' := 12) i7_11 rfl rfl ?_
    obtain ⟨k4, e5, g6, H⟩ := H
    refine e_al (n := k4) (w := .long (gL h 237 k4)) (pc' := 13) i7_12 rfl (x_alE (a := 21) (by decide) hw.1 sh237 (by decide) e5 g6 (by decide)) (x_clE e5 g6 (by decide)) rfl ?_
    refine e_ld (pc' := 14) i7_13 rfl rfl ?_
    refine e_get (w := .ref 237) (pc' := 17) i7_14 rfl (x_isC (by decide) hw.1 sh235) (x_fvR (by decide +kernel) (hw.2 235 2 237 lk235_2)) ?_
    refine e_ld (pc' := 18) i7_17 rfl rfl ?_
    obtain ⟨k7, e8, g9, H⟩ := H
    refine e_al (n := k7) (w := .long (gL h 237 k7)) (pc' := 19) i7_18 rfl (x_alE (a := 21) (by decide) hw.1 sh237 (by decide) e8 g9 (by decide)) (x_clE e8 g9 (by decide)) rfl ?_
    refine e_lcmp (pc' := 20) i7_19 rfl ?_
    refine e_if (pc' := 23) i7_20 rfl (fun c10 => ?_) (fun c10 => ?_)
    · have d11 : ¬ ((lg_cmp (gL h 237 k4) (gL h 237 k7)) = 0) := (of_decide_eq_true c10)
      replace H := H.2 d11
      refine e_inc (z := l2 + 1) (ls' := [some (.ref 235), some (.int l1), some (.int (l2 + 1))]) (pc' := 37) i7_34 rfl rfl rfl rfl ?_
      refine e_go i7_37 ?_
      exact H
    · have d12 : (lg_cmp (gL h 237 k4) (gL h 237 k7)) = 0 := (Decidable.not_not.mp (of_decide_eq_false c10))
      replace H := H.1 d12
      refine e_ld (pc' := 24) i7_23 rfl rfl ?_
      refine e_ld (pc' := 25) i7_24 rfl rfl ?_
      refine e_ld (pc' := 26) i7_25 rfl rfl ?_
      obtain ⟨r14, s13, H⟩ := H
      refine e_cI (w := .int r14) (As := [.ref 235, .int l2, .int l1]) (rest := []) (pc' := 29) i7_26 rfl rfl rfl rfl (by show (Nat.beq (x_kd 8) 0 && x_is 235 _ (MC 8) 0) = true; rw [show x_kd 8 = 0 by decide +kernel, show MC 8 = 1 by decide +kernel, (x_isC (by decide) hw.1 sh235)]; rfl) s13 ?_
      refine e_if (pc' := 32) i7_29 rfl (fun c15 => ?_) (fun c15 => ?_)
      · have d16 : r14 = 0 := (of_decide_eq_true c15)
        replace H := H.1 d16
        refine e_inc (z := l2 + 1) (ls' := [some (.ref 235), some (.int l1), some (.int (l2 + 1))]) (pc' := 37) i7_34 rfl rfl rfl rfl ?_
        refine e_go i7_37 ?_
        exact H
      · have d17 : ¬ (r14 = 0) := (of_decide_eq_false c15)
        replace H := H.2 d17
        refine e_ld (pc' := 33) i7_32 rfl rfl ?_
        refine e_rt i7_33 rfl ?_
        exact H
-- FloorTurn$Finder.sameStates(II)Z
set_option maxHeartbeats 8000000 in
set_option maxRecDepth 100000 in
theorem v8 {L : Nat} {xs : Nat → Int32} {Q : Option Value → Hp → Prop} {h : Hp} {x : Int32} {y : Int32} (hw : HW h) 
  (H : WP L xs 8 2 [some (.ref 235), some (.int x), some (.int y), some (.int 0)] [] h Q) : ∃ r h', Sp L xs 8 [.ref 235, .int x, .int y] h r h' ∧ Q r h' := by
  refine sp_ex (ls := [some (.ref 235), some (.int x), some (.int y), none]) rfl ?_
  refine e_cn (pc' := 1) i8_0 rfl ?_
  refine e_st (ls' := [some (.ref 235), some (.int x), some (.int y), some (.int 0)]) (pc' := 2) i8_1 rfl rfl rfl ?_
  exact H
set_option maxHeartbeats 8000000 in
set_option maxRecDepth 100000 in
theorem v8_2 {L : Nat} {xs : Nat → Int32} {Q : Option Value → Hp → Prop} {h : Hp} {l1 : Int32} {l2 : Int32} {l3 : Int32} (hw : HW h) 
  (H : ((144 ≤ l3) → (Q (some (.int 1)) h)) ∧ (¬ (144 ≤ l3) → (∃ k4 : Nat, ((l1 * 144) + l3) = nI k4 ∧ k4 < 57744 ∧ ∃ k7 : Nat, ((l2 * 144) + l3) = nI k7 ∧ k7 < 57744 ∧ (((lg_cmp (gL h 236 k4) (gL h 236 k7)) = 0) → (WP L xs 8 2 [some (.ref 235), some (.int l1), some (.int l2), some (.int (l3 + 1))] [] h Q)) ∧ (¬ ((lg_cmp (gL h 236 k4) (gL h 236 k7)) = 0) → (Q (some (.int 0)) h))))) : WP L xs 8 2 [some (.ref 235), some (.int l1), some (.int l2), some (.int l3)] [] h Q := by
  refine e_ld (pc' := 3) i8_2 rfl rfl ?_
  refine e_cn (pc' := 6) i8_3 rfl ?_
  refine e_ic (pc' := 9) i8_6 rfl (fun c1 => ?_) (fun c1 => ?_)
  · have d2 : 144 ≤ l3 := (of_decide_eq_true c1)
    replace H := H.1 d2
    refine e_cn (pc' := 46) i8_45 rfl ?_
    refine e_rt i8_46 rfl ?_
    exact H
  · have d3 : ¬ (144 ≤ l3) := (of_decide_eq_false c1)
    replace H := H.2 d3
    refine e_ld (pc' := 10) i8_9 rfl rfl ?_
    refine e_get (w := .ref 236) (pc' := 13) i8_10 rfl (x_isC (by decide) hw.1 sh235) (x_fvR (by decide +kernel) (hw.2 235 1 236 lk235_1)) ?_
    refine e_ld (pc' := 14) i8_13 rfl rfl ?_
    refine e_cn (pc' := 17) i8_14 rfl ?_
    refine e_ib (z := l1 * 144) (pc' := 18) i8_17 rfl rfl ?_
    refine e_ld (pc' := 19) i8_18 rfl rfl ?_
    refine e_ib (z := (l1 * 144) + l3) (pc' := 20) i8_19 rfl rfl ?_
    obtain ⟨k4, e5, g6, H⟩ := H
    refine e_al (n := k4) (w := .long (gL h 236 k4)) (pc' := 21) i8_20 rfl (x_alE (a := 21) (by decide) hw.1 sh236 (by decide) e5 g6 (by decide)) (x_clE e5 g6 (by decide)) rfl ?_
    refine e_ld (pc' := 22) i8_21 rfl rfl ?_
    refine e_get (w := .ref 236) (pc' := 25) i8_22 rfl (x_isC (by decide) hw.1 sh235) (x_fvR (by decide +kernel) (hw.2 235 1 236 lk235_1)) ?_
    refine e_ld (pc' := 26) i8_25 rfl rfl ?_
    refine e_cn (pc' := 29) i8_26 rfl ?_
    refine e_ib (z := l2 * 144) (pc' := 30) i8_29 rfl rfl ?_
    refine e_ld (pc' := 31) i8_30 rfl rfl ?_
    refine e_ib (z := (l2 * 144) + l3) (pc' := 32) i8_31 rfl rfl ?_
    obtain ⟨k7, e8, g9, H⟩ := H
    refine e_al (n := k7) (w := .long (gL h 236 k7)) (pc' := 33) i8_32 rfl (x_alE (a := 21) (by decide) hw.1 sh236 (by decide) e8 g9 (by decide)) (x_clE e8 g9 (by decide)) rfl ?_
    refine e_lcmp (pc' := 34) i8_33 rfl ?_
    refine e_if (pc' := 37) i8_34 rfl (fun c10 => ?_) (fun c10 => ?_)
    · have d11 : (lg_cmp (gL h 236 k4) (gL h 236 k7)) = 0 := (of_decide_eq_true c10)
      replace H := H.1 d11
      refine e_inc (z := l3 + 1) (ls' := [some (.ref 235), some (.int l1), some (.int l2), some (.int (l3 + 1))]) (pc' := 42) i8_39 rfl rfl rfl rfl ?_
      refine e_go i8_42 ?_
      exact H
    · have d12 : ¬ ((lg_cmp (gL h 236 k4) (gL h 236 k7)) = 0) := (of_decide_eq_false c10)
      replace H := H.2 d12
      refine e_cn (pc' := 38) i8_37 rfl ?_
      refine e_rt i8_38 rfl ?_
      exact H
-- FloorTurn$Finder.watchTurn()V
set_option maxHeartbeats 8000000 in
set_option maxRecDepth 100000 in
theorem v9 {L : Nat} {xs : Nat → Int32} {Q : Option Value → Hp → Prop} {h : Hp}  (hw : HW h) 
  (H : WP L xs 9 17 [some (.ref 235), some (.int 0)] [] (sI (sI (sI h 235 8 0) 235 9 0) 235 10 1) Q) : ∃ r h', Sp L xs 9 [.ref 235] h r h' ∧ Q r h' := by
  refine sp_ex (ls := [some (.ref 235), none]) rfl ?_
  refine e_ld (pc' := 1) i9_0 rfl rfl ?_
  refine e_cn (pc' := 2) i9_1 rfl ?_
  refine e_put (h' := sI h 235 8 0) (pc' := 5) i9_2 rfl (x_isC (by decide) hw.1 sh235) rfl ?_
  have w2 : HW (sI h 235 8 0) := HW_sI hw
  refine e_ld (pc' := 6) i9_5 rfl rfl ?_
  refine e_cn (pc' := 7) i9_6 rfl ?_
  refine e_put (h' := sI (sI h 235 8 0) 235 9 0) (pc' := 10) i9_7 rfl (x_isC (by decide) w2.1 sh235) rfl ?_
  have w4 : HW (sI (sI h 235 8 0) 235 9 0) := HW_sI w2
  refine e_ld (pc' := 11) i9_10 rfl rfl ?_
  refine e_cn (pc' := 12) i9_11 rfl ?_
  refine e_put (h' := sI (sI (sI h 235 8 0) 235 9 0) 235 10 1) (pc' := 15) i9_12 rfl (x_isC (by decide) w4.1 sh235) rfl ?_
  have w6 : HW (sI (sI (sI h 235 8 0) 235 9 0) 235 10 1) := HW_sI w4
  refine e_cn (pc' := 16) i9_15 rfl ?_
  refine e_st (ls' := [some (.ref 235), some (.int 0)]) (pc' := 17) i9_16 rfl rfl rfl ?_
  exact H
set_option maxHeartbeats 8000000 in
set_option maxRecDepth 100000 in
theorem v9_17 {L : Nat} {xs : Nat → Int32} {Q : Option Value → Hp → Prop} {h : Hp} {l1 : Int32} (hw : HW h) 
  (H : ((144 ≤ l1) → (WP L xs 9 79 [some (.ref 235), some (.int 0)] [] h Q)) ∧ (¬ (144 ≤ l1) → (∃ k4 : Nat, l1 = nI k4 ∧ k4 < 144 ∧ ∃ (h7 : Hp), Sp L xs 27 [.ref (246 + k4)] h none h7 ∧ WP L xs 9 17 [some (.ref 235), some (.int (l1 + 1))] [] (sI (sI h7 238 k4 1) 239 k4 (b2i (if (gI (sI h7 238 k4 1) (246 + k4) 0) = 6 then (true) else (false)))) Q))) : WP L xs 9 17 [some (.ref 235), some (.int l1)] [] h Q := by
  refine e_ld (pc' := 18) i9_17 rfl rfl ?_
  refine e_cn (pc' := 21) i9_18 rfl ?_
  refine e_ic (pc' := 24) i9_21 rfl (fun c1 => ?_) (fun c1 => ?_)
  · have d2 : 144 ≤ l1 := (of_decide_eq_true c1)
    replace H := H.1 d2
    refine e_cn (pc' := 78) i9_77 rfl ?_
    refine e_st (ls' := [some (.ref 235), some (.int 0)]) (pc' := 79) i9_78 rfl rfl rfl ?_
    exact H
  · have d3 : ¬ (144 ≤ l1) := (of_decide_eq_false c1)
    replace H := H.2 d3
    refine e_ld (pc' := 25) i9_24 rfl rfl ?_
    refine e_get (w := .ref 240) (pc' := 28) i9_25 rfl (x_isC (by decide) hw.1 sh235) (x_fvR (by decide +kernel) (hw.2 235 0 240 lk235_0)) ?_
    refine e_get (w := .ref 241) (pc' := 31) i9_28 rfl (x_isC (by decide) hw.1 sh240) (x_fvR (by decide +kernel) (hw.2 240 1 241 lk240_1)) ?_
    refine e_ld (pc' := 32) i9_31 rfl rfl ?_
    obtain ⟨k4, e5, g6, H⟩ := H
    refine e_al (n := k4) (w := .ref (246 + k4)) (pc' := 33) i9_32 rfl (x_alE (a := 23) (by decide) hw.1 sh241 (by decide) e5 g6 (by decide)) (x_clE e5 g6 (by decide)) (x_agR (hw.2 _ _ _ (LK_p240 g6))) ?_
    obtain ⟨h7, s8, H⟩ := H
    have w10q := HW_sp (show x_okm 27 = true by rfl) s8 hw
    have w10 : HW h7 := w10q.1
    refine e_cV (As := [.ref (246 + k4)]) (rest := []) (pc' := 36) i9_33 rfl rfl rfl rfl (by show (Nat.beq (x_kd 27) 0 && x_is (246 + k4) _ (MC 27) 0) = true; rw [show x_kd 27 = 0 by decide +kernel, show MC 27 = 3 by decide +kernel, (x_isP (PT_240 g6) hw.1)]; rfl) s8 ?_
    refine e_ld (pc' := 37) i9_36 rfl rfl ?_
    refine e_get (w := .ref 238) (pc' := 40) i9_37 rfl (x_isC (by decide) w10.1 sh235) (x_fvR (by decide +kernel) (w10.2 235 3 238 lk235_3)) ?_
    refine e_ld (pc' := 41) i9_40 rfl rfl ?_
    refine e_cn (pc' := 42) i9_41 rfl ?_
    refine e_as (n := k4) (h' := sI h7 238 k4 1) (pc' := 43) i9_42 rfl (x_alE (a := 22) (by decide) w10.1 sh238 (by decide) e5 g6 (by decide)) (x_clE e5 g6 (by decide)) (by rw [(show (SH 238).1 = 22 by rw [sh238])]; rfl) ?_
    have w12 : HW (sI h7 238 k4 1) := HW_sI w10
    refine e_ld (pc' := 44) i9_43 rfl rfl ?_
    refine e_get (w := .ref 239) (pc' := 47) i9_44 rfl (x_isC (by decide) w12.1 sh235) (x_fvR (by decide +kernel) (w12.2 235 4 239 lk235_4)) ?_
    refine e_ld (pc' := 48) i9_47 rfl rfl ?_
    refine e_ld (pc' := 49) i9_48 rfl rfl ?_
    refine e_get (w := .ref 240) (pc' := 52) i9_49 rfl (x_isC (by decide) w12.1 sh235) (x_fvR (by decide +kernel) (w12.2 235 0 240 lk235_0)) ?_
    refine e_get (w := .ref 241) (pc' := 55) i9_52 rfl (x_isC (by decide) w12.1 sh240) (x_fvR (by decide +kernel) (w12.2 240 1 241 lk240_1)) ?_
    refine e_ld (pc' := 56) i9_55 rfl rfl ?_
    refine e_al (n := k4) (w := .ref (246 + k4)) (pc' := 57) i9_56 rfl (x_alE (a := 23) (by decide) w12.1 sh241 (by decide) e5 g6 (by decide)) (x_clE e5 g6 (by decide)) (x_agR (w12.2 _ _ _ (LK_p240 g6))) ?_
    refine e_get (w := .int (gI (sI h7 238 k4 1) (246 + k4) 0)) (pc' := 60) i9_57 rfl (x_isP (PT_240 g6) w12.1) rfl ?_
    refine e_cn (pc' := 62) i9_60 rfl ?_
    refine e_reg (pc' := 70) (ls' := [some (.ref 235), some (.int l1)]) (st' := [.int (b2i (if (gI (sI h7 238 k4 1) (246 + k4) 0) = 6 then (true) else (false))), .int l1, .ref 239]) (fun kj11 => ?_) ?_
    · skip
      refine e_ic (pc' := 65) i9_62 rfl (fun c12 => ?_) (fun c12 => ?_)
      · have d13 : ¬ ((gI (sI h7 238 k4 1) (246 + k4) 0) = 6) := (of_decide_eq_true c12)
        refine e_cn (pc' := 70) i9_69 rfl ?_
        exact (by simp only [if_neg d13] at kj11 ⊢; exact kj11)
      · have d14 : (gI (sI h7 238 k4 1) (246 + k4) 0) = 6 := (Decidable.not_not.mp (of_decide_eq_false c12))
        refine e_cn (pc' := 66) i9_65 rfl ?_
        refine e_go i9_66 ?_
        exact (by simp only [if_pos d14] at kj11 ⊢; exact kj11)
    refine e_as (n := k4) (h' := sI (sI h7 238 k4 1) 239 k4 (b2i (if (gI (sI h7 238 k4 1) (246 + k4) 0) = 6 then (true) else (false)))) (pc' := 71) i9_70 rfl (x_alE (a := 22) (by decide) w12.1 sh239 (by decide) e5 g6 (by decide)) (x_clE e5 g6 (by decide)) (by rw [(show (SH 239).1 = 22 by rw [sh239])]; simp only [x_aput, b2i_01, cond_true]) ?_
    have w18 : HW (sI (sI h7 238 k4 1) 239 k4 (b2i (if (gI (sI h7 238 k4 1) (246 + k4) 0) = 6 then (true) else (false)))) := HW_sI w12
    refine e_inc (z := l1 + 1) (ls' := [some (.ref 235), some (.int (l1 + 1))]) (pc' := 74) i9_71 rfl rfl rfl rfl ?_
    refine e_go i9_74 ?_
    exact H
set_option maxHeartbeats 8000000 in
set_option maxRecDepth 100000 in
theorem v9_79 {L : Nat} {xs : Nat → Int32} {Q : Option Value → Hp → Prop} {h : Hp} {l1 : Int32} (hw : HW h) 
  (H : (((gI h 235 7) ≤ l1) → (WP L xs 9 115 [some (.ref 235), some (.int 0)] [] h Q)) ∧ (¬ ((gI h 235 7) ≤ l1) → (∃ (r6 : Int32) (h4 : Hp), Sp L xs 16 [.ref 240] h (some (.int r6)) h4 ∧ ∃ (h9 : Hp), Sp L xs 10 [.ref 235] (sI h4 235 8 ((gI h 235 8) + r6)) none h9 ∧ WP L xs 9 79 [some (.ref 235), some (.int (l1 + 1))] [] h9 Q))) : WP L xs 9 79 [some (.ref 235), some (.int l1)] [] h Q := by
  refine e_ld (pc' := 80) i9_79 rfl rfl ?_
  refine e_ld (pc' := 81) i9_80 rfl rfl ?_
  refine e_get (w := .int (gI h 235 7)) (pc' := 84) i9_81 rfl (x_isC (by decide) hw.1 sh235) rfl ?_
  refine e_ic (pc' := 87) i9_84 rfl (fun c1 => ?_) (fun c1 => ?_)
  · have d2 : (gI h 235 7) ≤ l1 := (of_decide_eq_true c1)
    replace H := H.1 d2
    refine e_cn (pc' := 114) i9_113 rfl ?_
    refine e_st (ls' := [some (.ref 235), some (.int 0)]) (pc' := 115) i9_114 rfl rfl rfl ?_
    exact H
  · have d3 : ¬ ((gI h 235 7) ≤ l1) := (of_decide_eq_false c1)
    replace H := H.2 d3
    refine e_ld (pc' := 88) i9_87 rfl rfl ?_
    refine e_stk (pc' := 89) i9_88 rfl rfl ?_
    refine e_get (w := .int (gI h 235 8)) (pc' := 92) i9_89 rfl (x_isC (by decide) hw.1 sh235) rfl ?_
    refine e_ld (pc' := 93) i9_92 rfl rfl ?_
    refine e_get (w := .ref 240) (pc' := 96) i9_93 rfl (x_isC (by decide) hw.1 sh235) (x_fvR (by decide +kernel) (hw.2 235 0 240 lk235_0)) ?_
    obtain ⟨r6, h4, s5, H⟩ := H
    have w8q := HW_sp (show x_okm 16 = true by rfl) s5 hw
    have w8 : HW h4 := w8q.1
    refine e_cI (w := .int r6) (As := [.ref 240]) (rest := [.int (gI h 235 8), .ref 235]) (pc' := 99) i9_96 rfl rfl rfl rfl (by show (Nat.beq (x_kd 16) 0 && x_is 240 _ (MC 16) 0) = true; rw [show x_kd 16 = 0 by decide +kernel, show MC 16 = 2 by decide +kernel, (x_isC (by decide) hw.1 sh240)]; rfl) s5 ?_
    refine e_ib (z := (gI h 235 8) + r6) (pc' := 100) i9_99 rfl rfl ?_
    refine e_put (h' := sI h4 235 8 ((gI h 235 8) + r6)) (pc' := 103) i9_100 rfl (x_isC (by decide) w8.1 sh235) rfl ?_
    have w10 : HW (sI h4 235 8 ((gI h 235 8) + r6)) := HW_sI w8
    refine e_ld (pc' := 104) i9_103 rfl rfl ?_
    obtain ⟨h9, s10, H⟩ := H
    have w14q := HW_sp (show x_okm 10 = true by rfl) s10 w10
    have w14 : HW h9 := w14q.1
    refine e_cV (As := [.ref 235]) (rest := []) (pc' := 107) i9_104 rfl rfl rfl rfl (by show (Nat.beq (x_kd 10) 0 && x_is 235 _ (MC 10) 0) = true; rw [show x_kd 10 = 0 by decide +kernel, show MC 10 = 1 by decide +kernel, (x_isC (by decide) w10.1 sh235)]; rfl) s10 ?_
    refine e_inc (z := l1 + 1) (ls' := [some (.ref 235), some (.int (l1 + 1))]) (pc' := 110) i9_107 rfl rfl rfl rfl ?_
    refine e_go i9_110 ?_
    exact H
set_option maxHeartbeats 8000000 in
set_option maxRecDepth 100000 in
theorem v9_115 {L : Nat} {xs : Nat → Int32} {Q : Option Value → Hp → Prop} {h : Hp} {l1 : Int32} (hw : HW h) 
  (H : ((144 ≤ l1) → (Q none h)) ∧ (¬ (144 ≤ l1) → (∃ k4 : Nat, l1 = nI k4 ∧ k4 < 144 ∧ (((gI h (246 + k4) 15) ≤ 0) → (WP L xs 9 115 [some (.ref 235), some (.int (l1 + 1))] [] h Q)) ∧ (¬ ((gI h (246 + k4) 15) ≤ 0) → (WP L xs 9 115 [some (.ref 235), some (.int (l1 + 1))] [] (sI (sI h 238 k4 0) 235 10 0) Q))))) : WP L xs 9 115 [some (.ref 235), some (.int l1)] [] h Q := by
  refine e_ld (pc' := 116) i9_115 rfl rfl ?_
  refine e_cn (pc' := 119) i9_116 rfl ?_
  refine e_ic (pc' := 122) i9_119 rfl (fun c1 => ?_) (fun c1 => ?_)
  · have d2 : 144 ≤ l1 := (of_decide_eq_true c1)
    replace H := H.1 d2
    refine e_rt i9_155 rfl ?_
    exact H
  · have d3 : ¬ (144 ≤ l1) := (of_decide_eq_false c1)
    replace H := H.2 d3
    refine e_ld (pc' := 123) i9_122 rfl rfl ?_
    refine e_get (w := .ref 240) (pc' := 126) i9_123 rfl (x_isC (by decide) hw.1 sh235) (x_fvR (by decide +kernel) (hw.2 235 0 240 lk235_0)) ?_
    refine e_get (w := .ref 241) (pc' := 129) i9_126 rfl (x_isC (by decide) hw.1 sh240) (x_fvR (by decide +kernel) (hw.2 240 1 241 lk240_1)) ?_
    refine e_ld (pc' := 130) i9_129 rfl rfl ?_
    obtain ⟨k4, e5, g6, H⟩ := H
    refine e_al (n := k4) (w := .ref (246 + k4)) (pc' := 131) i9_130 rfl (x_alE (a := 23) (by decide) hw.1 sh241 (by decide) e5 g6 (by decide)) (x_clE e5 g6 (by decide)) (x_agR (hw.2 _ _ _ (LK_p240 g6))) ?_
    refine e_get (w := .int (gI h (246 + k4) 15)) (pc' := 134) i9_131 rfl (x_isP (PT_240 g6) hw.1) rfl ?_
    refine e_if (pc' := 137) i9_134 rfl (fun c7 => ?_) (fun c7 => ?_)
    · have d8 : (gI h (246 + k4) 15) ≤ 0 := (of_decide_eq_true c7)
      replace H := H.1 d8
      refine e_inc (z := l1 + 1) (ls' := [some (.ref 235), some (.int (l1 + 1))]) (pc' := 152) i9_149 rfl rfl rfl rfl ?_
      refine e_go i9_152 ?_
      exact H
    · have d9 : ¬ ((gI h (246 + k4) 15) ≤ 0) := (of_decide_eq_false c7)
      replace H := H.2 d9
      refine e_ld (pc' := 138) i9_137 rfl rfl ?_
      refine e_get (w := .ref 238) (pc' := 141) i9_138 rfl (x_isC (by decide) hw.1 sh235) (x_fvR (by decide +kernel) (hw.2 235 3 238 lk235_3)) ?_
      refine e_ld (pc' := 142) i9_141 rfl rfl ?_
      refine e_cn (pc' := 143) i9_142 rfl ?_
      refine e_as (n := k4) (h' := sI h 238 k4 0) (pc' := 144) i9_143 rfl (x_alE (a := 22) (by decide) hw.1 sh238 (by decide) e5 g6 (by decide)) (x_clE e5 g6 (by decide)) (by rw [(show (SH 238).1 = 22 by rw [sh238])]; rfl) ?_
      have w11 : HW (sI h 238 k4 0) := HW_sI hw
      refine e_ld (pc' := 145) i9_144 rfl rfl ?_
      refine e_cn (pc' := 146) i9_145 rfl ?_
      refine e_put (h' := sI (sI h 238 k4 0) 235 10 0) (pc' := 149) i9_146 rfl (x_isC (by decide) w11.1 sh235) rfl ?_
      have w13 : HW (sI (sI h 238 k4 0) 235 10 0) := HW_sI w11
      refine e_inc (z := l1 + 1) (ls' := [some (.ref 235), some (.int (l1 + 1))]) (pc' := 152) i9_149 rfl rfl rfl rfl ?_
      refine e_go i9_152 ?_
      exact H
-- FloorTurn$Finder.watchTickEnd()V
set_option maxHeartbeats 8000000 in
set_option maxRecDepth 100000 in
theorem v10 {L : Nat} {xs : Nat → Int32} {Q : Option Value → Hp → Prop} {h : Hp}  (hw : HW h) 
  (H : WP L xs 10 4 [some (.ref 235), some (.int 0), some (.int 0), none] [] h Q) : ∃ r h', Sp L xs 10 [.ref 235] h r h' ∧ Q r h' := by
  refine sp_ex (ls := [some (.ref 235), none, none, none]) rfl ?_
  refine e_cn (pc' := 1) i10_0 rfl ?_
  refine e_st (ls' := [some (.ref 235), some (.int 0), none, none]) (pc' := 2) i10_1 rfl rfl rfl ?_
  refine e_cn (pc' := 3) i10_2 rfl ?_
  refine e_st (ls' := [some (.ref 235), some (.int 0), some (.int 0), none]) (pc' := 4) i10_3 rfl rfl rfl ?_
  exact H
set_option maxHeartbeats 8000000 in
set_option maxRecDepth 100000 in
theorem v10_4 {L : Nat} {xs : Nat → Int32} {Q : Option Value → Hp → Prop} {h : Hp} {l1 : Int32} {l2 : Int32} {z3 : Option Value} (hw : HW h) 
  (H : ((144 ≤ l2) → (Q none (sI h 235 9 (if (gI h 235 9) < l1 then l1 else (gI h 235 9))))) ∧ (¬ (144 ≤ l2) → (∃ k5 : Nat, l2 = nI k5 ∧ k5 < 144 ∧ ∃ (r9 : Int32), Sp L xs 34 [.ref (246 + k5)] h (some (.int r9)) h ∧ ((r9 = 0) → ((gR h (246 + k5) 4 = none → (WP L xs 10 4 [some (.ref 235), some (.int l1), some (.int (l2 + 1)), some (.ref (246 + k5))] [] (sI h 238 k5 0) Q)) ∧ (∀ q35 : Nat, gR h (246 + k5) 4 = some q35 → ((((gI (sI h 238 k5 0) (246 + k5) 11) = 0) → ((RQ q35 (sI h 238 k5 0).1) ∧ (((gI (sI h 238 k5 0) (246 + k5) 9) ≤ (gI (sI h 238 k5 0) q35 1)) → (WP L xs 10 4 [some (.ref 235), some (.int l1), some (.int (l2 + 1)), some (.ref (246 + k5))] [] (sI h 238 k5 0) Q)) ∧ (¬ ((gI (sI h 238 k5 0) (246 + k5) 9) ≤ (gI (sI h 238 k5 0) q35 1)) → (WP L xs 10 4 [some (.ref 235), some (.int l1), some (.int (l2 + 1)), some (.ref (246 + k5))] [] (sI (sI h 238 k5 0) 239 k5 0) Q)))) ∧ (¬ ((gI (sI h 238 k5 0) (246 + k5) 11) = 0) → ((RQ q35 (sI h 238 k5 0).1) ∧ (((gI (sI (sI h 238 k5 0) 235 10 0) (246 + k5) 11) = 0) → ((((gI (sI (sI h 238 k5 0) 235 10 0) (246 + k5) 9) ≤ (gI (sI (sI h 238 k5 0) 235 10 0) q35 1)) → (WP L xs 10 4 [some (.ref 235), some (.int (l1 + (gI (sI h 238 k5 0) q35 3))), some (.int (l2 + 1)), some (.ref (246 + k5))] [] (sI (sI h 238 k5 0) 235 10 0) Q)) ∧ (¬ ((gI (sI (sI h 238 k5 0) 235 10 0) (246 + k5) 9) ≤ (gI (sI (sI h 238 k5 0) 235 10 0) q35 1)) → (WP L xs 10 4 [some (.ref 235), some (.int (l1 + (gI (sI h 238 k5 0) q35 3))), some (.int (l2 + 1)), some (.ref (246 + k5))] [] (sI (sI (sI h 238 k5 0) 235 10 0) 239 k5 0) Q)))) ∧ (¬ ((gI (sI (sI h 238 k5 0) 235 10 0) (246 + k5) 11) = 0) → (WP L xs 10 4 [some (.ref 235), some (.int (l1 + (gI (sI h 238 k5 0) q35 3))), some (.int (l2 + 1)), some (.ref (246 + k5))] [] (sI (sI (sI h 238 k5 0) 235 10 0) 239 k5 0) Q)))))))) ∧ (¬ (r9 = 0) → ((gR h (246 + k5) 4 = none → (WP L xs 10 4 [some (.ref 235), some (.int l1), some (.int (l2 + 1)), some (.ref (246 + k5))] [] h Q)) ∧ (∀ q13 : Nat, gR h (246 + k5) 4 = some q13 → ((((gI h (246 + k5) 11) = 0) → ((RQ q13 h.1) ∧ (((gI h (246 + k5) 9) ≤ (gI h q13 1)) → (WP L xs 10 4 [some (.ref 235), some (.int l1), some (.int (l2 + 1)), some (.ref (246 + k5))] [] h Q)) ∧ (¬ ((gI h (246 + k5) 9) ≤ (gI h q13 1)) → (WP L xs 10 4 [some (.ref 235), some (.int l1), some (.int (l2 + 1)), some (.ref (246 + k5))] [] (sI h 239 k5 0) Q)))) ∧ (¬ ((gI h (246 + k5) 11) = 0) → ((RQ q13 h.1) ∧ (((gI (sI h 235 10 0) (246 + k5) 11) = 0) → ((((gI (sI h 235 10 0) (246 + k5) 9) ≤ (gI (sI h 235 10 0) q13 1)) → (WP L xs 10 4 [some (.ref 235), some (.int (l1 + (gI h q13 3))), some (.int (l2 + 1)), some (.ref (246 + k5))] [] (sI h 235 10 0) Q)) ∧ (¬ ((gI (sI h 235 10 0) (246 + k5) 9) ≤ (gI (sI h 235 10 0) q13 1)) → (WP L xs 10 4 [some (.ref 235), some (.int (l1 + (gI h q13 3))), some (.int (l2 + 1)), some (.ref (246 + k5))] [] (sI (sI h 235 10 0) 239 k5 0) Q)))) ∧ (¬ ((gI (sI h 235 10 0) (246 + k5) 11) = 0) → (WP L xs 10 4 [some (.ref 235), some (.int (l1 + (gI h q13 3))), some (.int (l2 + 1)), some (.ref (246 + k5))] [] (sI (sI h 235 10 0) 239 k5 0) Q))))))))))) : WP L xs 10 4 [some (.ref 235), some (.int l1), some (.int l2), z3] [] h Q := by
  refine e_ld (pc' := 5) i10_4 rfl rfl ?_
  refine e_cn (pc' := 8) i10_5 rfl ?_
  refine e_ic (pc' := 11) i10_8 rfl (fun c1 => ?_) (fun c1 => ?_)
  · have d2 : 144 ≤ l2 := (of_decide_eq_true c1)
    replace H := H.1 d2
    refine e_ld (pc' := 99) i10_98 rfl rfl ?_
    refine e_ld (pc' := 100) i10_99 rfl rfl ?_
    refine e_get (w := .int (gI h 235 9)) (pc' := 103) i10_100 rfl (x_isC (by decide) hw.1 sh235) rfl ?_
    refine e_ld (pc' := 104) i10_103 rfl rfl ?_
    refine e_max (pc' := 107) i10_104 rfl rfl ?_
    refine e_put (h' := sI h 235 9 (if (gI h 235 9) < l1 then l1 else (gI h 235 9))) (pc' := 110) i10_107 rfl (x_isC (by decide) hw.1 sh235) rfl ?_
    have w4 : HW (sI h 235 9 (if (gI h 235 9) < l1 then l1 else (gI h 235 9))) := HW_sI hw
    refine e_rt i10_110 rfl ?_
    exact H
  · have d4 : ¬ (144 ≤ l2) := (of_decide_eq_false c1)
    replace H := H.2 d4
    refine e_ld (pc' := 12) i10_11 rfl rfl ?_
    refine e_get (w := .ref 240) (pc' := 15) i10_12 rfl (x_isC (by decide) hw.1 sh235) (x_fvR (by decide +kernel) (hw.2 235 0 240 lk235_0)) ?_
    refine e_get (w := .ref 241) (pc' := 18) i10_15 rfl (x_isC (by decide) hw.1 sh240) (x_fvR (by decide +kernel) (hw.2 240 1 241 lk240_1)) ?_
    refine e_ld (pc' := 19) i10_18 rfl rfl ?_
    obtain ⟨k5, e6, g7, H⟩ := H
    refine e_al (n := k5) (w := .ref (246 + k5)) (pc' := 20) i10_19 rfl (x_alE (a := 23) (by decide) hw.1 sh241 (by decide) e6 g7 (by decide)) (x_clE e6 g7 (by decide)) (x_agR (hw.2 _ _ _ (LK_p240 g7))) ?_
    refine e_st (ls' := [some (.ref 235), some (.int l1), some (.int l2), some (.ref (246 + k5))]) (pc' := 21) i10_20 rfl rfl rfl ?_
    refine e_ld (pc' := 22) i10_21 rfl rfl ?_
    obtain ⟨r9, s8, H⟩ := H
    refine e_cI (w := .int r9) (As := [.ref (246 + k5)]) (rest := []) (pc' := 25) i10_22 rfl rfl rfl rfl (by show (Nat.beq (x_kd 34) 0 && x_is (246 + k5) _ (MC 34) 0) = true; rw [show x_kd 34 = 0 by decide +kernel, show MC 34 = 3 by decide +kernel, (x_isP (PT_240 g7) hw.1)]; rfl) s8 ?_
    refine e_if (pc' := 28) i10_25 rfl (fun c10 => ?_) (fun c10 => ?_)
    · have d11 : ¬ (r9 = 0) := (of_decide_eq_true c10)
      replace H := H.2 d11
      refine e_ld (pc' := 36) i10_35 rfl rfl ?_
      cases hr12 : gR h (246 + k5) 4 with
      | none =>
        replace H := H.1 hr12
        refine e_get (w := .null) (pc' := 39) i10_36 rfl (x_isP (PT_240 g7) hw.1) (x_fvN (by decide +kernel) hr12) ?_
        refine e_nul (pc' := 92) i10_39 rfl ?_
        refine e_inc (z := l2 + 1) (ls' := [some (.ref 235), some (.int l1), some (.int (l2 + 1)), some (.ref (246 + k5))]) (pc' := 95) i10_92 rfl rfl rfl rfl ?_
        refine e_go i10_95 ?_
        exact H
      | some q13 =>
        replace H := H.2 _ hr12
        refine e_get (w := .ref q13) (pc' := 39) i10_36 rfl (x_isP (PT_240 g7) hw.1) (x_fvR (by decide +kernel) hr12) ?_
        refine e_nur (pc' := 42) i10_39 rfl ?_
        refine e_ld (pc' := 43) i10_42 rfl rfl ?_
        refine e_get (w := .int (gI h (246 + k5) 11)) (pc' := 46) i10_43 rfl (x_isP (PT_240 g7) hw.1) rfl ?_
        refine e_if (pc' := 49) i10_46 rfl (fun c14 => ?_) (fun c14 => ?_)
        · have d15 : (gI h (246 + k5) 11) = 0 := (of_decide_eq_true c14)
          replace H := H.1 d15
          refine e_ld (pc' := 65) i10_64 rfl rfl ?_
          refine e_get (w := .int (gI h (246 + k5) 11)) (pc' := 68) i10_65 rfl (x_isP (PT_240 g7) hw.1) rfl ?_
          refine e_ifF (pc' := 71) i10_68 rfl (decide_eq_false (not_not_intro d15)) ?_
          refine e_ld (pc' := 72) i10_71 rfl rfl ?_
          refine e_get (w := .int (gI h (246 + k5) 9)) (pc' := 75) i10_72 rfl (x_isP (PT_240 g7) hw.1) rfl ?_
          refine e_ld (pc' := 76) i10_75 rfl rfl ?_
          refine e_get (w := .ref q13) (pc' := 79) i10_76 rfl (x_isP (PT_240 g7) hw.1) (x_fvR (by decide +kernel) hr12) ?_
          obtain ⟨g16, H⟩ := H
          refine e_get (w := .int (gI h q13 1)) (pc' := 82) i10_79 rfl (x_isV g16.1 g16.2) rfl ?_
          refine e_ic (pc' := 85) i10_82 rfl (fun c17 => ?_) (fun c17 => ?_)
          · have d18 : (gI h (246 + k5) 9) ≤ (gI h q13 1) := (of_decide_eq_true c17)
            replace H := H.1 d18
            refine e_inc (z := l2 + 1) (ls' := [some (.ref 235), some (.int l1), some (.int (l2 + 1)), some (.ref (246 + k5))]) (pc' := 95) i10_92 rfl rfl rfl rfl ?_
            refine e_go i10_95 ?_
            exact H
          · have d19 : ¬ ((gI h (246 + k5) 9) ≤ (gI h q13 1)) := (of_decide_eq_false c17)
            replace H := H.2 d19
            refine e_ld (pc' := 86) i10_85 rfl rfl ?_
            refine e_get (w := .ref 239) (pc' := 89) i10_86 rfl (x_isC (by decide) hw.1 sh235) (x_fvR (by decide +kernel) (hw.2 235 4 239 lk235_4)) ?_
            refine e_ld (pc' := 90) i10_89 rfl rfl ?_
            refine e_cn (pc' := 91) i10_90 rfl ?_
            refine e_as (n := k5) (h' := sI h 239 k5 0) (pc' := 92) i10_91 rfl (x_alE (a := 22) (by decide) hw.1 sh239 (by decide) e6 g7 (by decide)) (x_clE e6 g7 (by decide)) (by rw [(show (SH 239).1 = 22 by rw [sh239])]; rfl) ?_
            have w21 : HW (sI h 239 k5 0) := HW_sI hw
            refine e_inc (z := l2 + 1) (ls' := [some (.ref 235), some (.int l1), some (.int (l2 + 1)), some (.ref (246 + k5))]) (pc' := 95) i10_92 rfl rfl rfl rfl ?_
            refine e_go i10_95 ?_
            exact H
        · have d21 : ¬ ((gI h (246 + k5) 11) = 0) := (of_decide_eq_false c14)
          replace H := H.2 d21
          refine e_ld (pc' := 50) i10_49 rfl rfl ?_
          refine e_ld (pc' := 51) i10_50 rfl rfl ?_
          refine e_get (w := .ref q13) (pc' := 54) i10_51 rfl (x_isP (PT_240 g7) hw.1) (x_fvR (by decide +kernel) hr12) ?_
          obtain ⟨g22, H⟩ := H
          refine e_get (w := .int (gI h q13 3)) (pc' := 57) i10_54 rfl (x_isV g22.1 g22.2) rfl ?_
          refine e_ib (z := l1 + (gI h q13 3)) (pc' := 58) i10_57 rfl rfl ?_
          refine e_st (ls' := [some (.ref 235), some (.int (l1 + (gI h q13 3))), some (.int l2), some (.ref (246 + k5))]) (pc' := 59) i10_58 rfl rfl rfl ?_
          refine e_ld (pc' := 60) i10_59 rfl rfl ?_
          refine e_cn (pc' := 61) i10_60 rfl ?_
          refine e_put (h' := sI h 235 10 0) (pc' := 64) i10_61 rfl (x_isC (by decide) hw.1 sh235) rfl ?_
          have w24 : HW (sI h 235 10 0) := HW_sI hw
          refine e_ld (pc' := 65) i10_64 rfl rfl ?_
          refine e_get (w := .int (gI (sI h 235 10 0) (246 + k5) 11)) (pc' := 68) i10_65 rfl (x_isP (PT_240 g7) w24.1) rfl ?_
          refine e_if (pc' := 71) i10_68 rfl (fun c24 => ?_) (fun c24 => ?_)
          · have d25 : ¬ ((gI (sI h 235 10 0) (246 + k5) 11) = 0) := (of_decide_eq_true c24)
            replace H := H.2 d25
            refine e_ld (pc' := 86) i10_85 rfl rfl ?_
            refine e_get (w := .ref 239) (pc' := 89) i10_86 rfl (x_isC (by decide) w24.1 sh235) (x_fvR (by decide +kernel) (w24.2 235 4 239 lk235_4)) ?_
            refine e_ld (pc' := 90) i10_89 rfl rfl ?_
            refine e_cn (pc' := 91) i10_90 rfl ?_
            refine e_as (n := k5) (h' := sI (sI h 235 10 0) 239 k5 0) (pc' := 92) i10_91 rfl (x_alE (a := 22) (by decide) w24.1 sh239 (by decide) e6 g7 (by decide)) (x_clE e6 g7 (by decide)) (by rw [(show (SH 239).1 = 22 by rw [sh239])]; rfl) ?_
            have w28 : HW (sI (sI h 235 10 0) 239 k5 0) := HW_sI w24
            refine e_inc (z := l2 + 1) (ls' := [some (.ref 235), some (.int (l1 + (gI h q13 3))), some (.int (l2 + 1)), some (.ref (246 + k5))]) (pc' := 95) i10_92 rfl rfl rfl rfl ?_
            refine e_go i10_95 ?_
            exact H
          · have d27 : (gI (sI h 235 10 0) (246 + k5) 11) = 0 := (Decidable.not_not.mp (of_decide_eq_false c24))
            replace H := H.1 d27
            refine e_ld (pc' := 72) i10_71 rfl rfl ?_
            refine e_get (w := .int (gI (sI h 235 10 0) (246 + k5) 9)) (pc' := 75) i10_72 rfl (x_isP (PT_240 g7) w24.1) rfl ?_
            refine e_ld (pc' := 76) i10_75 rfl rfl ?_
            refine e_get (w := .ref q13) (pc' := 79) i10_76 rfl (x_isP (PT_240 g7) w24.1) (x_fvR (by decide +kernel) (Eq.trans gR_psI hr12)) ?_
            refine e_get (w := .int (gI (sI h 235 10 0) q13 1)) (pc' := 82) i10_79 rfl (x_isV g22.1 g22.2) rfl ?_
            refine e_ic (pc' := 85) i10_82 rfl (fun c28 => ?_) (fun c28 => ?_)
            · have d29 : (gI (sI h 235 10 0) (246 + k5) 9) ≤ (gI (sI h 235 10 0) q13 1) := (of_decide_eq_true c28)
              replace H := H.1 d29
              refine e_inc (z := l2 + 1) (ls' := [some (.ref 235), some (.int (l1 + (gI h q13 3))), some (.int (l2 + 1)), some (.ref (246 + k5))]) (pc' := 95) i10_92 rfl rfl rfl rfl ?_
              refine e_go i10_95 ?_
              exact H
            · have d30 : ¬ ((gI (sI h 235 10 0) (246 + k5) 9) ≤ (gI (sI h 235 10 0) q13 1)) := (of_decide_eq_false c28)
              replace H := H.2 d30
              refine e_ld (pc' := 86) i10_85 rfl rfl ?_
              refine e_get (w := .ref 239) (pc' := 89) i10_86 rfl (x_isC (by decide) w24.1 sh235) (x_fvR (by decide +kernel) (w24.2 235 4 239 lk235_4)) ?_
              refine e_ld (pc' := 90) i10_89 rfl rfl ?_
              refine e_cn (pc' := 91) i10_90 rfl ?_
              refine e_as (n := k5) (h' := sI (sI h 235 10 0) 239 k5 0) (pc' := 92) i10_91 rfl (x_alE (a := 22) (by decide) w24.1 sh239 (by decide) e6 g7 (by decide)) (x_clE e6 g7 (by decide)) (by rw [(show (SH 239).1 = 22 by rw [sh239])]; rfl) ?_
              have w33 : HW (sI (sI h 235 10 0) 239 k5 0) := HW_sI w24
              refine e_inc (z := l2 + 1) (ls' := [some (.ref 235), some (.int (l1 + (gI h q13 3))), some (.int (l2 + 1)), some (.ref (246 + k5))]) (pc' := 95) i10_92 rfl rfl rfl rfl ?_
              refine e_go i10_95 ?_
              exact H
    · have d32 : r9 = 0 := (Decidable.not_not.mp (of_decide_eq_false c10))
      replace H := H.1 d32
      refine e_ld (pc' := 29) i10_28 rfl rfl ?_
      refine e_get (w := .ref 238) (pc' := 32) i10_29 rfl (x_isC (by decide) hw.1 sh235) (x_fvR (by decide +kernel) (hw.2 235 3 238 lk235_3)) ?_
      refine e_ld (pc' := 33) i10_32 rfl rfl ?_
      refine e_cn (pc' := 34) i10_33 rfl ?_
      refine e_as (n := k5) (h' := sI h 238 k5 0) (pc' := 35) i10_34 rfl (x_alE (a := 22) (by decide) hw.1 sh238 (by decide) e6 g7 (by decide)) (x_clE e6 g7 (by decide)) (by rw [(show (SH 238).1 = 22 by rw [sh238])]; rfl) ?_
      have w34 : HW (sI h 238 k5 0) := HW_sI hw
      refine e_ld (pc' := 36) i10_35 rfl rfl ?_
      cases hr34 : gR h (246 + k5) 4 with
      | none =>
        replace H := H.1 hr34
        refine e_get (w := .null) (pc' := 39) i10_36 rfl (x_isP (PT_240 g7) w34.1) (x_fvN (by decide +kernel) (Eq.trans gR_psI hr34)) ?_
        refine e_nul (pc' := 92) i10_39 rfl ?_
        refine e_inc (z := l2 + 1) (ls' := [some (.ref 235), some (.int l1), some (.int (l2 + 1)), some (.ref (246 + k5))]) (pc' := 95) i10_92 rfl rfl rfl rfl ?_
        refine e_go i10_95 ?_
        exact H
      | some q35 =>
        replace H := H.2 _ hr34
        refine e_get (w := .ref q35) (pc' := 39) i10_36 rfl (x_isP (PT_240 g7) w34.1) (x_fvR (by decide +kernel) (Eq.trans gR_psI hr34)) ?_
        refine e_nur (pc' := 42) i10_39 rfl ?_
        refine e_ld (pc' := 43) i10_42 rfl rfl ?_
        refine e_get (w := .int (gI (sI h 238 k5 0) (246 + k5) 11)) (pc' := 46) i10_43 rfl (x_isP (PT_240 g7) w34.1) rfl ?_
        refine e_if (pc' := 49) i10_46 rfl (fun c36 => ?_) (fun c36 => ?_)
        · have d37 : (gI (sI h 238 k5 0) (246 + k5) 11) = 0 := (of_decide_eq_true c36)
          replace H := H.1 d37
          refine e_ld (pc' := 65) i10_64 rfl rfl ?_
          refine e_get (w := .int (gI (sI h 238 k5 0) (246 + k5) 11)) (pc' := 68) i10_65 rfl (x_isP (PT_240 g7) w34.1) rfl ?_
          refine e_ifF (pc' := 71) i10_68 rfl (decide_eq_false (not_not_intro d37)) ?_
          refine e_ld (pc' := 72) i10_71 rfl rfl ?_
          refine e_get (w := .int (gI (sI h 238 k5 0) (246 + k5) 9)) (pc' := 75) i10_72 rfl (x_isP (PT_240 g7) w34.1) rfl ?_
          refine e_ld (pc' := 76) i10_75 rfl rfl ?_
          refine e_get (w := .ref q35) (pc' := 79) i10_76 rfl (x_isP (PT_240 g7) w34.1) (x_fvR (by decide +kernel) (Eq.trans gR_psI hr34)) ?_
          obtain ⟨g38, H⟩ := H
          refine e_get (w := .int (gI (sI h 238 k5 0) q35 1)) (pc' := 82) i10_79 rfl (x_isV g38.1 g38.2) rfl ?_
          refine e_ic (pc' := 85) i10_82 rfl (fun c39 => ?_) (fun c39 => ?_)
          · have d40 : (gI (sI h 238 k5 0) (246 + k5) 9) ≤ (gI (sI h 238 k5 0) q35 1) := (of_decide_eq_true c39)
            replace H := H.1 d40
            refine e_inc (z := l2 + 1) (ls' := [some (.ref 235), some (.int l1), some (.int (l2 + 1)), some (.ref (246 + k5))]) (pc' := 95) i10_92 rfl rfl rfl rfl ?_
            refine e_go i10_95 ?_
            exact H
          · have d41 : ¬ ((gI (sI h 238 k5 0) (246 + k5) 9) ≤ (gI (sI h 238 k5 0) q35 1)) := (of_decide_eq_false c39)
            replace H := H.2 d41
            refine e_ld (pc' := 86) i10_85 rfl rfl ?_
            refine e_get (w := .ref 239) (pc' := 89) i10_86 rfl (x_isC (by decide) w34.1 sh235) (x_fvR (by decide +kernel) (w34.2 235 4 239 lk235_4)) ?_
            refine e_ld (pc' := 90) i10_89 rfl rfl ?_
            refine e_cn (pc' := 91) i10_90 rfl ?_
            refine e_as (n := k5) (h' := sI (sI h 238 k5 0) 239 k5 0) (pc' := 92) i10_91 rfl (x_alE (a := 22) (by decide) w34.1 sh239 (by decide) e6 g7 (by decide)) (x_clE e6 g7 (by decide)) (by rw [(show (SH 239).1 = 22 by rw [sh239])]; rfl) ?_
            have w44 : HW (sI (sI h 238 k5 0) 239 k5 0) := HW_sI w34
            refine e_inc (z := l2 + 1) (ls' := [some (.ref 235), some (.int l1), some (.int (l2 + 1)), some (.ref (246 + k5))]) (pc' := 95) i10_92 rfl rfl rfl rfl ?_
            refine e_go i10_95 ?_
            exact H
        · have d43 : ¬ ((gI (sI h 238 k5 0) (246 + k5) 11) = 0) := (of_decide_eq_false c36)
          replace H := H.2 d43
          refine e_ld (pc' := 50) i10_49 rfl rfl ?_
          refine e_ld (pc' := 51) i10_50 rfl rfl ?_
          refine e_get (w := .ref q35) (pc' := 54) i10_51 rfl (x_isP (PT_240 g7) w34.1) (x_fvR (by decide +kernel) (Eq.trans gR_psI hr34)) ?_
          obtain ⟨g44, H⟩ := H
          refine e_get (w := .int (gI (sI h 238 k5 0) q35 3)) (pc' := 57) i10_54 rfl (x_isV g44.1 g44.2) rfl ?_
          refine e_ib (z := l1 + (gI (sI h 238 k5 0) q35 3)) (pc' := 58) i10_57 rfl rfl ?_
          refine e_st (ls' := [some (.ref 235), some (.int (l1 + (gI (sI h 238 k5 0) q35 3))), some (.int l2), some (.ref (246 + k5))]) (pc' := 59) i10_58 rfl rfl rfl ?_
          refine e_ld (pc' := 60) i10_59 rfl rfl ?_
          refine e_cn (pc' := 61) i10_60 rfl ?_
          refine e_put (h' := sI (sI h 238 k5 0) 235 10 0) (pc' := 64) i10_61 rfl (x_isC (by decide) w34.1 sh235) rfl ?_
          have w47 : HW (sI (sI h 238 k5 0) 235 10 0) := HW_sI w34
          refine e_ld (pc' := 65) i10_64 rfl rfl ?_
          refine e_get (w := .int (gI (sI (sI h 238 k5 0) 235 10 0) (246 + k5) 11)) (pc' := 68) i10_65 rfl (x_isP (PT_240 g7) w47.1) rfl ?_
          refine e_if (pc' := 71) i10_68 rfl (fun c46 => ?_) (fun c46 => ?_)
          · have d47 : ¬ ((gI (sI (sI h 238 k5 0) 235 10 0) (246 + k5) 11) = 0) := (of_decide_eq_true c46)
            replace H := H.2 d47
            refine e_ld (pc' := 86) i10_85 rfl rfl ?_
            refine e_get (w := .ref 239) (pc' := 89) i10_86 rfl (x_isC (by decide) w47.1 sh235) (x_fvR (by decide +kernel) (w47.2 235 4 239 lk235_4)) ?_
            refine e_ld (pc' := 90) i10_89 rfl rfl ?_
            refine e_cn (pc' := 91) i10_90 rfl ?_
            refine e_as (n := k5) (h' := sI (sI (sI h 238 k5 0) 235 10 0) 239 k5 0) (pc' := 92) i10_91 rfl (x_alE (a := 22) (by decide) w47.1 sh239 (by decide) e6 g7 (by decide)) (x_clE e6 g7 (by decide)) (by rw [(show (SH 239).1 = 22 by rw [sh239])]; rfl) ?_
            have w51 : HW (sI (sI (sI h 238 k5 0) 235 10 0) 239 k5 0) := HW_sI w47
            refine e_inc (z := l2 + 1) (ls' := [some (.ref 235), some (.int (l1 + (gI (sI h 238 k5 0) q35 3))), some (.int (l2 + 1)), some (.ref (246 + k5))]) (pc' := 95) i10_92 rfl rfl rfl rfl ?_
            refine e_go i10_95 ?_
            exact H
          · have d49 : (gI (sI (sI h 238 k5 0) 235 10 0) (246 + k5) 11) = 0 := (Decidable.not_not.mp (of_decide_eq_false c46))
            replace H := H.1 d49
            refine e_ld (pc' := 72) i10_71 rfl rfl ?_
            refine e_get (w := .int (gI (sI (sI h 238 k5 0) 235 10 0) (246 + k5) 9)) (pc' := 75) i10_72 rfl (x_isP (PT_240 g7) w47.1) rfl ?_
            refine e_ld (pc' := 76) i10_75 rfl rfl ?_
            refine e_get (w := .ref q35) (pc' := 79) i10_76 rfl (x_isP (PT_240 g7) w47.1) (x_fvR (by decide +kernel) (Eq.trans (Eq.trans gR_psI gR_psI) hr34)) ?_
            refine e_get (w := .int (gI (sI (sI h 238 k5 0) 235 10 0) q35 1)) (pc' := 82) i10_79 rfl (x_isV g44.1 g44.2) rfl ?_
            refine e_ic (pc' := 85) i10_82 rfl (fun c50 => ?_) (fun c50 => ?_)
            · have d51 : (gI (sI (sI h 238 k5 0) 235 10 0) (246 + k5) 9) ≤ (gI (sI (sI h 238 k5 0) 235 10 0) q35 1) := (of_decide_eq_true c50)
              replace H := H.1 d51
              refine e_inc (z := l2 + 1) (ls' := [some (.ref 235), some (.int (l1 + (gI (sI h 238 k5 0) q35 3))), some (.int (l2 + 1)), some (.ref (246 + k5))]) (pc' := 95) i10_92 rfl rfl rfl rfl ?_
              refine e_go i10_95 ?_
              exact H
            · have d52 : ¬ ((gI (sI (sI h 238 k5 0) 235 10 0) (246 + k5) 9) ≤ (gI (sI (sI h 238 k5 0) 235 10 0) q35 1)) := (of_decide_eq_false c50)
              replace H := H.2 d52
              refine e_ld (pc' := 86) i10_85 rfl rfl ?_
              refine e_get (w := .ref 239) (pc' := 89) i10_86 rfl (x_isC (by decide) w47.1 sh235) (x_fvR (by decide +kernel) (w47.2 235 4 239 lk235_4)) ?_
              refine e_ld (pc' := 90) i10_89 rfl rfl ?_
              refine e_cn (pc' := 91) i10_90 rfl ?_
              refine e_as (n := k5) (h' := sI (sI (sI h 238 k5 0) 235 10 0) 239 k5 0) (pc' := 92) i10_91 rfl (x_alE (a := 22) (by decide) w47.1 sh239 (by decide) e6 g7 (by decide)) (x_clE e6 g7 (by decide)) (by rw [(show (SH 239).1 = 22 by rw [sh239])]; rfl) ?_
              have w56 : HW (sI (sI (sI h 238 k5 0) 235 10 0) 239 k5 0) := HW_sI w47
              refine e_inc (z := l2 + 1) (ls' := [some (.ref 235), some (.int (l1 + (gI (sI h 238 k5 0) q35 3))), some (.int (l2 + 1)), some (.ref (246 + k5))]) (pc' := 95) i10_92 rfl rfl rfl rfl ?_
              refine e_go i10_95 ?_
              exact H
-- FloorTurn$Finder.tellTurn(I)I
set_option maxHeartbeats 8000000 in
set_option maxRecDepth 100000 in
theorem v11 {L : Nat} {xs : Nat → Int32} {Q : Option Value → Hp → Prop} {h : Hp} {x : Int32} (hw : HW h) 
  (H : (((gI h 235 5) = 0) → (Q (some (.int (-1))) h)) ∧ (¬ ((gI h 235 5) = 0) → (((x = 0) → (Q (some (.int (gI h 235 6))) h)) ∧ (¬ (x = 0) → (((x = 1) → (Q (some (.int (gI h 235 7))) h)) ∧ (¬ (x = 1) → (((x = 2) → (Q (some (.int (gI h 235 8))) h)) ∧ (¬ (x = 2) → (((x = 3) → (Q (some (.int (gI h 235 9))) h)) ∧ (¬ (x = 3) → (((x = 4) → (Q (some (.int (b2i (if (gI h 235 10) = 0 then (false) else (true))))) h)) ∧ (¬ (x = 4) → (Q (some (.int (-1))) h))))))))))))) : ∃ r h', Sp L xs 11 [.ref 235, .int x] h r h' ∧ Q r h' := by
  refine sp_ex (ls := [some (.ref 235), some (.int x)]) rfl ?_
  refine e_ld (pc' := 1) i11_0 rfl rfl ?_
  refine e_get (w := .int (gI h 235 5)) (pc' := 4) i11_1 rfl (x_isC (by decide) hw.1 sh235) rfl ?_
  refine e_if (pc' := 7) i11_4 rfl (fun c1 => ?_) (fun c1 => ?_)
  · have d2 : ¬ ((gI h 235 5) = 0) := (of_decide_eq_true c1)
    replace H := H.2 d2
    refine e_ld (pc' := 10) i11_9 rfl rfl ?_
    by_cases c3 : x = 0
    · replace H := H.1 c3
      refine e_tab (pc' := 44) i11_10 (by rw [c3]; rfl) ?_
      refine e_ld (pc' := 45) i11_44 rfl rfl ?_
      refine e_get (w := .int (gI h 235 6)) (pc' := 48) i11_45 rfl (x_isC (by decide) hw.1 sh235) rfl ?_
      refine e_rt i11_48 rfl ?_
      exact H
    · replace H := H.2 c3
      by_cases c4 : x = 1
      · replace H := H.1 c4
        refine e_tab (pc' := 49) i11_10 (by rw [c4]; rfl) ?_
        refine e_ld (pc' := 50) i11_49 rfl rfl ?_
        refine e_get (w := .int (gI h 235 7)) (pc' := 53) i11_50 rfl (x_isC (by decide) hw.1 sh235) rfl ?_
        refine e_rt i11_53 rfl ?_
        exact H
      · replace H := H.2 c4
        by_cases c5 : x = 2
        · replace H := H.1 c5
          refine e_tab (pc' := 54) i11_10 (by rw [c5]; rfl) ?_
          refine e_ld (pc' := 55) i11_54 rfl rfl ?_
          refine e_get (w := .int (gI h 235 8)) (pc' := 58) i11_55 rfl (x_isC (by decide) hw.1 sh235) rfl ?_
          refine e_rt i11_58 rfl ?_
          exact H
        · replace H := H.2 c5
          by_cases c6 : x = 3
          · replace H := H.1 c6
            refine e_tab (pc' := 59) i11_10 (by rw [c6]; rfl) ?_
            refine e_ld (pc' := 60) i11_59 rfl rfl ?_
            refine e_get (w := .int (gI h 235 9)) (pc' := 63) i11_60 rfl (x_isC (by decide) hw.1 sh235) rfl ?_
            refine e_rt i11_63 rfl ?_
            exact H
          · replace H := H.2 c6
            by_cases c7 : x = 4
            · replace H := H.1 c7
              refine e_tab (pc' := 64) i11_10 (by rw [c7]; rfl) ?_
              refine e_ld (pc' := 65) i11_64 rfl rfl ?_
              refine e_get (w := .int (gI h 235 10)) (pc' := 68) i11_65 rfl (x_isC (by decide) hw.1 sh235) rfl ?_
              refine e_reg (pc' := 76) (ls' := [some (.ref 235), some (.int x)]) (st' := [.int (b2i (if (gI h 235 10) = 0 then (false) else (true)))]) (fun kj8 => ?_) ?_
              · skip
                refine e_if (pc' := 71) i11_68 rfl (fun c9 => ?_) (fun c9 => ?_)
                · have d10 : (gI h 235 10) = 0 := (of_decide_eq_true c9)
                  refine e_cn (pc' := 76) i11_75 rfl ?_
                  exact (by simp only [if_pos d10] at kj8 ⊢; exact kj8)
                · have d11 : ¬ ((gI h 235 10) = 0) := (of_decide_eq_false c9)
                  refine e_cn (pc' := 72) i11_71 rfl ?_
                  refine e_go i11_72 ?_
                  exact (by simp only [if_neg d11] at kj8 ⊢; exact kj8)
              refine e_rt i11_76 rfl ?_
              exact H
            · replace H := H.2 c7
              refine e_tab (pc' := 77) i11_10 (x_tgt_out (by decide) (fun k (hk : k < 5) => by rcases (show k = 0 ∨ k = 1 ∨ k = 2 ∨ k = 3 ∨ k = 4 by omega) with rfl | rfl | rfl | rfl | rfl <;> assumption)) ?_
              refine e_cn (pc' := 78) i11_77 rfl ?_
              refine e_rt i11_78 rfl ?_
              exact H
  · have d12 : (gI h 235 5) = 0 := (Decidable.not_not.mp (of_decide_eq_false c1))
    replace H := H.1 d12
    refine e_cn (pc' := 8) i11_7 rfl ?_
    refine e_rt i11_8 rfl ?_
    exact H
-- FloorTurn$Finder.tellCell(II)I
set_option maxHeartbeats 8000000 in
set_option maxRecDepth 100000 in
theorem v12 {L : Nat} {xs : Nat → Int32} {Q : Option Value → Hp → Prop} {h : Hp} {x : Int32} {y : Int32} (hw : HW h) 
  (H : ∃ k1 : Nat, x = nI k1 ∧ k1 < 144 ∧ (((gI h 235 5) = 0) → (Q (some (.int (-1))) h)) ∧ (¬ ((gI h 235 5) = 0) → ((((gI h (246 + k1) 0) = 0) → (Q (some (.int (-1))) h)) ∧ (¬ ((gI h (246 + k1) 0) = 0) → (((y = 0) → (Q (some (.int (gI h (246 + k1) 14))) h)) ∧ (¬ (y = 0) → (((y = 1) → (Q (some (.int (gI h (246 + k1) 15))) h)) ∧ (¬ (y = 1) → (((y = 2) → (Q (some (.int (gI h (246 + k1) 16))) h)) ∧ (¬ (y = 2) → (((y = 3) → (Q (some (.int (b2i (if (gI h 238 k1) = 0 then (false) else (true))))) h)) ∧ (¬ (y = 3) → (((y = 4) → (Q (some (.int (b2i (if (gI h 239 k1) = 0 then (false) else (true))))) h)) ∧ (¬ (y = 4) → (Q (some (.int (-1))) h))))))))))))))) : ∃ r h', Sp L xs 12 [.ref 235, .int x, .int y] h r h' ∧ Q r h' := by
  refine sp_ex (ls := [some (.ref 235), some (.int x), some (.int y), none]) rfl ?_
  refine e_ld (pc' := 1) i12_0 rfl rfl ?_
  refine e_get (w := .ref 240) (pc' := 4) i12_1 rfl (x_isC (by decide) hw.1 sh235) (x_fvR (by decide +kernel) (hw.2 235 0 240 lk235_0)) ?_
  refine e_get (w := .ref 241) (pc' := 7) i12_4 rfl (x_isC (by decide) hw.1 sh240) (x_fvR (by decide +kernel) (hw.2 240 1 241 lk240_1)) ?_
  refine e_ld (pc' := 8) i12_7 rfl rfl ?_
  obtain ⟨k1, e2, g3, H⟩ := H
  refine e_al (n := k1) (w := .ref (246 + k1)) (pc' := 9) i12_8 rfl (x_alE (a := 23) (by decide) hw.1 sh241 (by decide) e2 g3 (by decide)) (x_clE e2 g3 (by decide)) (x_agR (hw.2 _ _ _ (LK_p240 g3))) ?_
  refine e_st (ls' := [some (.ref 235), some (.int x), some (.int y), some (.ref (246 + k1))]) (pc' := 10) i12_9 rfl rfl rfl ?_
  refine e_ld (pc' := 11) i12_10 rfl rfl ?_
  refine e_get (w := .int (gI h 235 5)) (pc' := 14) i12_11 rfl (x_isC (by decide) hw.1 sh235) rfl ?_
  refine e_if (pc' := 17) i12_14 rfl (fun c4 => ?_) (fun c4 => ?_)
  · have d5 : (gI h 235 5) = 0 := (of_decide_eq_true c4)
    replace H := H.1 d5
    refine e_cn (pc' := 25) i12_24 rfl ?_
    refine e_rt i12_25 rfl ?_
    exact H
  · have d6 : ¬ ((gI h 235 5) = 0) := (of_decide_eq_false c4)
    replace H := H.2 d6
    refine e_ld (pc' := 18) i12_17 rfl rfl ?_
    refine e_get (w := .int (gI h (246 + k1) 0)) (pc' := 21) i12_18 rfl (x_isP (PT_240 g3) hw.1) rfl ?_
    refine e_if (pc' := 24) i12_21 rfl (fun c7 => ?_) (fun c7 => ?_)
    · have d8 : ¬ ((gI h (246 + k1) 0) = 0) := (of_decide_eq_true c7)
      replace H := H.2 d8
      refine e_ld (pc' := 27) i12_26 rfl rfl ?_
      by_cases c9 : y = 0
      · replace H := H.1 c9
        refine e_tab (pc' := 60) i12_27 (by rw [c9]; rfl) ?_
        refine e_ld (pc' := 61) i12_60 rfl rfl ?_
        refine e_get (w := .int (gI h (246 + k1) 14)) (pc' := 64) i12_61 rfl (x_isP (PT_240 g3) hw.1) rfl ?_
        refine e_rt i12_64 rfl ?_
        exact H
      · replace H := H.2 c9
        by_cases c10 : y = 1
        · replace H := H.1 c10
          refine e_tab (pc' := 65) i12_27 (by rw [c10]; rfl) ?_
          refine e_ld (pc' := 66) i12_65 rfl rfl ?_
          refine e_get (w := .int (gI h (246 + k1) 15)) (pc' := 69) i12_66 rfl (x_isP (PT_240 g3) hw.1) rfl ?_
          refine e_rt i12_69 rfl ?_
          exact H
        · replace H := H.2 c10
          by_cases c11 : y = 2
          · replace H := H.1 c11
            refine e_tab (pc' := 70) i12_27 (by rw [c11]; rfl) ?_
            refine e_ld (pc' := 71) i12_70 rfl rfl ?_
            refine e_get (w := .int (gI h (246 + k1) 16)) (pc' := 74) i12_71 rfl (x_isP (PT_240 g3) hw.1) rfl ?_
            refine e_rt i12_74 rfl ?_
            exact H
          · replace H := H.2 c11
            by_cases c12 : y = 3
            · replace H := H.1 c12
              refine e_tab (pc' := 75) i12_27 (by rw [c12]; rfl) ?_
              refine e_ld (pc' := 76) i12_75 rfl rfl ?_
              refine e_get (w := .ref 238) (pc' := 79) i12_76 rfl (x_isC (by decide) hw.1 sh235) (x_fvR (by decide +kernel) (hw.2 235 3 238 lk235_3)) ?_
              refine e_ld (pc' := 80) i12_79 rfl rfl ?_
              refine e_al (n := k1) (w := .int (gI h 238 k1)) (pc' := 81) i12_80 rfl (x_alE (a := 22) (by decide) hw.1 sh238 (by decide) e2 g3 (by decide)) (x_clE e2 g3 (by decide)) rfl ?_
              refine e_reg (pc' := 89) (ls' := [some (.ref 235), some (.int x), some (.int y), some (.ref (246 + k1))]) (st' := [.int (b2i (if (gI h 238 k1) = 0 then (false) else (true)))]) (fun kj13 => ?_) ?_
              · skip
                refine e_if (pc' := 84) i12_81 rfl (fun c14 => ?_) (fun c14 => ?_)
                · have d15 : (gI h 238 k1) = 0 := (of_decide_eq_true c14)
                  refine e_cn (pc' := 89) i12_88 rfl ?_
                  exact (by simp only [if_pos d15] at kj13 ⊢; exact kj13)
                · have d16 : ¬ ((gI h 238 k1) = 0) := (of_decide_eq_false c14)
                  refine e_cn (pc' := 85) i12_84 rfl ?_
                  refine e_go i12_85 ?_
                  exact (by simp only [if_neg d16] at kj13 ⊢; exact kj13)
              refine e_rt i12_89 rfl ?_
              exact H
            · replace H := H.2 c12
              by_cases c17 : y = 4
              · replace H := H.1 c17
                refine e_tab (pc' := 90) i12_27 (by rw [c17]; rfl) ?_
                refine e_ld (pc' := 91) i12_90 rfl rfl ?_
                refine e_get (w := .ref 239) (pc' := 94) i12_91 rfl (x_isC (by decide) hw.1 sh235) (x_fvR (by decide +kernel) (hw.2 235 4 239 lk235_4)) ?_
                refine e_ld (pc' := 95) i12_94 rfl rfl ?_
                refine e_al (n := k1) (w := .int (gI h 239 k1)) (pc' := 96) i12_95 rfl (x_alE (a := 22) (by decide) hw.1 sh239 (by decide) e2 g3 (by decide)) (x_clE e2 g3 (by decide)) rfl ?_
                refine e_reg (pc' := 104) (ls' := [some (.ref 235), some (.int x), some (.int y), some (.ref (246 + k1))]) (st' := [.int (b2i (if (gI h 239 k1) = 0 then (false) else (true)))]) (fun kj18 => ?_) ?_
                · skip
                  refine e_if (pc' := 99) i12_96 rfl (fun c19 => ?_) (fun c19 => ?_)
                  · have d20 : (gI h 239 k1) = 0 := (of_decide_eq_true c19)
                    refine e_cn (pc' := 104) i12_103 rfl ?_
                    exact (by simp only [if_pos d20] at kj18 ⊢; exact kj18)
                  · have d21 : ¬ ((gI h 239 k1) = 0) := (of_decide_eq_false c19)
                    refine e_cn (pc' := 100) i12_99 rfl ?_
                    refine e_go i12_100 ?_
                    exact (by simp only [if_neg d21] at kj18 ⊢; exact kj18)
                refine e_rt i12_104 rfl ?_
                exact H
              · replace H := H.2 c17
                refine e_tab (pc' := 105) i12_27 (x_tgt_out (by decide) (fun k (hk : k < 5) => by rcases (show k = 0 ∨ k = 1 ∨ k = 2 ∨ k = 3 ∨ k = 4 by omega) with rfl | rfl | rfl | rfl | rfl <;> assumption)) ?_
                refine e_cn (pc' := 106) i12_105 rfl ?_
                refine e_rt i12_106 rfl ?_
                exact H
    · have d22 : (gI h (246 + k1) 0) = 0 := (Decidable.not_not.mp (of_decide_eq_false c7))
      replace H := H.1 d22
      refine e_cn (pc' := 25) i12_24 rfl ?_
      refine e_rt i12_25 rfl ?_
      exact H
-- FloorTurn$Floor.place(IIIII)V
set_option maxHeartbeats 8000000 in
set_option maxRecDepth 100000 in
theorem v14 {L : Nat} {xs : Nat → Int32} {Q : Option Value → Hp → Prop} {h : Hp} {f : Nat} {x : Int32} {y : Int32} {z : Int32} {u : Int32} {v : Int32} (hw : HW h) (hf : FL f)
  (H : ∃ k1 : Nat, x = nI k1 ∧ k1 < 144 ∧ ∃ (r5 : Option Nat), Sp L xs 2 [.ref 2, .int u] h (some (x_rv r5)) h ∧ (r5 = none → (∃ (h7 : Hp), Sp L xs 26 [.ref (f + 6 + k1), .int y, .int z, .int u, .int v, .null] h none h7 ∧ Q none h7)) ∧ (∀ q6 : Nat, r5 = some q6 → (∃ (h10 : Hp), Sp L xs 26 [.ref (f + 6 + k1), .int y, .int z, .int u, .int v, .ref q6] h none h10 ∧ Q none h10))) : ∃ r h', Sp L xs 14 [.ref f, .int x, .int y, .int z, .int u, .int v] h r h' ∧ Q r h' := by
  refine sp_ex (ls := [some (.ref f), some (.int x), some (.int y), some (.int z), some (.int u), some (.int v)]) rfl ?_
  refine e_ld (pc' := 1) i14_0 rfl rfl ?_
  refine e_get (w := .ref (f + 1)) (pc' := 4) i14_1 rfl (x_isF hf hw.1) (x_fvR (by decide +kernel) (hw.2 _ _ _ (FL_lk1 hf))) ?_
  refine e_ld (pc' := 5) i14_4 rfl rfl ?_
  obtain ⟨k1, e2, g3, H⟩ := H
  refine e_al (n := k1) (w := .ref (f + 6 + k1)) (pc' := 6) i14_5 rfl (x_alE (a := 23) (FL_lt1 hf) hw.1 (FL_sh1 hf) (by decide) e2 g3 (by decide)) (x_clE e2 g3 (by decide)) (x_agR (hw.2 _ _ _ (LK_pf hf g3))) ?_
  refine e_ld (pc' := 7) i14_6 rfl rfl ?_
  refine e_ld (pc' := 8) i14_7 rfl rfl ?_
  refine e_ld (pc' := 10) i14_8 rfl rfl ?_
  refine e_ld (pc' := 12) i14_10 rfl rfl ?_
  refine e_ld (pc' := 13) i14_12 rfl rfl ?_
  refine e_get (w := .ref 2) (pc' := 16) i14_13 rfl (x_isF hf hw.1) (x_fvR (by decide +kernel) (hw.2 _ _ _ (FL_lk0 hf))) ?_
  refine e_ld (pc' := 18) i14_16 rfl rfl ?_
  obtain ⟨r5, s4, H⟩ := H
  cases r5 with
  | none =>
    replace H := H.1 rfl
    refine e_cI (w := .null) (As := [.ref 2, .int u]) (rest := [.int v, .int u, .int z, .int y, .ref (f + 6 + k1)]) (pc' := 21) i14_18 rfl rfl rfl rfl (by show (Nat.beq (x_kd 2) 0 && x_is 2 _ (MC 2) 0) = true; rw [show x_kd 2 = 0 by decide +kernel, show MC 2 = 0 by decide +kernel, (x_isC (by decide) hw.1 sh2)]; rfl) s4 ?_
    obtain ⟨h7, s8, H⟩ := H
    have w10q := HW_sp (show x_okm 26 = true by rfl) s8 hw
    have w10 : HW h7 := w10q.1
    refine e_cV (As := [.ref (f + 6 + k1), .int y, .int z, .int u, .int v, .null]) (rest := []) (pc' := 24) i14_21 rfl rfl rfl rfl (by show (Nat.beq (x_kd 26) 0 && x_is (f + 6 + k1) _ (MC 26) 0) = true; rw [show x_kd 26 = 0 by decide +kernel, show MC 26 = 3 by decide +kernel, (x_isP (PT_f hf g3) hw.1)]; rfl) s8 ?_
    refine e_rt i14_24 rfl ?_
    exact H
  | some q6 =>
    replace H := H.2 _ rfl
    refine e_cI (w := .ref q6) (As := [.ref 2, .int u]) (rest := [.int v, .int u, .int z, .int y, .ref (f + 6 + k1)]) (pc' := 21) i14_18 rfl rfl rfl rfl (by show (Nat.beq (x_kd 2) 0 && x_is 2 _ (MC 2) 0) = true; rw [show x_kd 2 = 0 by decide +kernel, show MC 2 = 0 by decide +kernel, (x_isC (by decide) hw.1 sh2)]; rfl) s4 ?_
    obtain ⟨h10, s11, H⟩ := H
    have w13q := HW_sp (show x_okm 26 = true by rfl) s11 hw
    have w13 : HW h10 := w13q.1
    refine e_cV (As := [.ref (f + 6 + k1), .int y, .int z, .int u, .int v, .ref q6]) (rest := []) (pc' := 24) i14_21 rfl rfl rfl rfl (by show (Nat.beq (x_kd 26) 0 && x_is (f + 6 + k1) _ (MC 26) 0) = true; rw [show x_kd 26 = 0 by decide +kernel, show MC 26 = 3 by decide +kernel, (x_isP (PT_f hf g3) hw.1)]; rfl) s11 ?_
    refine e_rt i14_24 rfl ?_
    exact H
-- FloorTurn$Floor.copyPartsFrom(LFloorTurn$Floor;)V
set_option maxHeartbeats 8000000 in
set_option maxRecDepth 100000 in
theorem v15 {L : Nat} {xs : Nat → Int32} {Q : Option Value → Hp → Prop} {h : Hp} {f : Nat} (hw : HW h) (hf : FL f)
  (H : WP L xs 15 2 [some (.ref f), some (.ref 4), some (.int 0)] [] h Q) : ∃ r h', Sp L xs 15 [.ref f, .ref 4] h r h' ∧ Q r h' := by
  refine sp_ex (ls := [some (.ref f), some (.ref 4), none]) rfl ?_
  refine e_cn (pc' := 1) i15_0 rfl ?_
  refine e_st (ls' := [some (.ref f), some (.ref 4), some (.int 0)]) (pc' := 2) i15_1 rfl rfl rfl ?_
  exact H
set_option maxHeartbeats 8000000 in
set_option maxRecDepth 100000 in
theorem v15_2 {L : Nat} {xs : Nat → Int32} {Q : Option Value → Hp → Prop} {h : Hp} {f : Nat} {l2 : Int32} (hw : HW h) (hf : FL f)
  (H : ((144 ≤ l2) → (Q none h)) ∧ (¬ (144 ≤ l2) → (∃ k4 : Nat, l2 = nI k4 ∧ k4 < 144 ∧ ∃ (h7 : Hp), Sp L xs 28 [.ref (f + 6 + k4), .ref (10 + k4)] h none h7 ∧ WP L xs 15 2 [some (.ref f), some (.ref 4), some (.int (l2 + 1))] [] h7 Q))) : WP L xs 15 2 [some (.ref f), some (.ref 4), some (.int l2)] [] h Q := by
  refine e_ld (pc' := 3) i15_2 rfl rfl ?_
  refine e_cn (pc' := 6) i15_3 rfl ?_
  refine e_ic (pc' := 9) i15_6 rfl (fun c1 => ?_) (fun c1 => ?_)
  · have d2 : 144 ≤ l2 := (of_decide_eq_true c1)
    replace H := H.1 d2
    refine e_rt i15_30 rfl ?_
    exact H
  · have d3 : ¬ (144 ≤ l2) := (of_decide_eq_false c1)
    replace H := H.2 d3
    refine e_ld (pc' := 10) i15_9 rfl rfl ?_
    refine e_get (w := .ref (f + 1)) (pc' := 13) i15_10 rfl (x_isF hf hw.1) (x_fvR (by decide +kernel) (hw.2 _ _ _ (FL_lk1 hf))) ?_
    refine e_ld (pc' := 14) i15_13 rfl rfl ?_
    obtain ⟨k4, e5, g6, H⟩ := H
    refine e_al (n := k4) (w := .ref (f + 6 + k4)) (pc' := 15) i15_14 rfl (x_alE (a := 23) (FL_lt1 hf) hw.1 (FL_sh1 hf) (by decide) e5 g6 (by decide)) (x_clE e5 g6 (by decide)) (x_agR (hw.2 _ _ _ (LK_pf hf g6))) ?_
    refine e_ld (pc' := 16) i15_15 rfl rfl ?_
    refine e_get (w := .ref 5) (pc' := 19) i15_16 rfl (x_isC (by decide) hw.1 sh4) (x_fvR (by decide +kernel) (hw.2 4 1 5 lk4_1)) ?_
    refine e_ld (pc' := 20) i15_19 rfl rfl ?_
    refine e_al (n := k4) (w := .ref (10 + k4)) (pc' := 21) i15_20 rfl (x_alE (a := 23) (by decide) hw.1 sh5 (by decide) e5 g6 (by decide)) (x_clE e5 g6 (by decide)) (x_agR (hw.2 _ _ _ (LK_p4 g6))) ?_
    obtain ⟨h7, s8, H⟩ := H
    have w10q := HW_sp (show x_okm 28 = true by rfl) s8 hw
    have w10 : HW h7 := w10q.1
    refine e_cV (As := [.ref (f + 6 + k4), .ref (10 + k4)]) (rest := []) (pc' := 24) i15_21 rfl rfl rfl rfl (by show (Nat.beq (x_kd 28) 0 && x_is (f + 6 + k4) _ (MC 28) 0) = true; rw [show x_kd 28 = 0 by decide +kernel, show MC 28 = 3 by decide +kernel, (x_isP (PT_f hf g6) hw.1)]; rfl) s8 ?_
    refine e_inc (z := l2 + 1) (ls' := [some (.ref f), some (.ref 4), some (.int (l2 + 1))]) (pc' := 27) i15_24 rfl rfl rfl rfl ?_
    refine e_go i15_27 ?_
    exact H
-- FloorTurn$Floor.step()I
set_option maxHeartbeats 8000000 in
set_option maxRecDepth 100000 in
theorem v16 {L : Nat} {xs : Nat → Int32} {Q : Option Value → Hp → Prop} {h : Hp} {f : Nat} (hw : HW h) (hf : FL f)
  (H : WP L xs 16 2 [some (.ref f), some (.int 0), none] [] h Q) : ∃ r h', Sp L xs 16 [.ref f] h r h' ∧ Q r h' := by
  refine sp_ex (ls := [some (.ref f), none, none]) rfl ?_
  refine e_cn (pc' := 1) i16_0 rfl ?_
  refine e_st (ls' := [some (.ref f), some (.int 0), none]) (pc' := 2) i16_1 rfl rfl rfl ?_
  exact H
set_option maxHeartbeats 8000000 in
set_option maxRecDepth 100000 in
theorem v16_2 {L : Nat} {xs : Nat → Int32} {Q : Option Value → Hp → Prop} {h : Hp} {f : Nat} {l1 : Int32} {z2 : Option Value} (hw : HW h) (hf : FL f)
  (H : ((144 ≤ l1) → (WP L xs 16 33 [some (.ref f), some (.int 0), z2] [] h Q)) ∧ (¬ (144 ≤ l1) → (∃ k4 : Nat, l1 = nI k4 ∧ k4 < 144 ∧ ∃ (h7 : Hp), Sp L xs 30 [.ref (f + 6 + k4)] h none h7 ∧ WP L xs 16 2 [some (.ref f), some (.int (l1 + 1)), z2] [] (sI h7 (f + 3) k4 (-1)) Q))) : WP L xs 16 2 [some (.ref f), some (.int l1), z2] [] h Q := by
  refine e_ld (pc' := 3) i16_2 rfl rfl ?_
  refine e_cn (pc' := 6) i16_3 rfl ?_
  refine e_ic (pc' := 9) i16_6 rfl (fun c1 => ?_) (fun c1 => ?_)
  · have d2 : 144 ≤ l1 := (of_decide_eq_true c1)
    replace H := H.1 d2
    refine e_cn (pc' := 32) i16_31 rfl ?_
    refine e_st (ls' := [some (.ref f), some (.int 0), z2]) (pc' := 33) i16_32 rfl rfl rfl ?_
    exact H
  · have d3 : ¬ (144 ≤ l1) := (of_decide_eq_false c1)
    replace H := H.2 d3
    refine e_ld (pc' := 10) i16_9 rfl rfl ?_
    refine e_get (w := .ref (f + 1)) (pc' := 13) i16_10 rfl (x_isF hf hw.1) (x_fvR (by decide +kernel) (hw.2 _ _ _ (FL_lk1 hf))) ?_
    refine e_ld (pc' := 14) i16_13 rfl rfl ?_
    obtain ⟨k4, e5, g6, H⟩ := H
    refine e_al (n := k4) (w := .ref (f + 6 + k4)) (pc' := 15) i16_14 rfl (x_alE (a := 23) (FL_lt1 hf) hw.1 (FL_sh1 hf) (by decide) e5 g6 (by decide)) (x_clE e5 g6 (by decide)) (x_agR (hw.2 _ _ _ (LK_pf hf g6))) ?_
    obtain ⟨h7, s8, H⟩ := H
    have w10q := HW_sp (show x_okm 30 = true by rfl) s8 hw
    have w10 : HW h7 := w10q.1
    refine e_cV (As := [.ref (f + 6 + k4)]) (rest := []) (pc' := 18) i16_15 rfl rfl rfl rfl (by show (Nat.beq (x_kd 30) 0 && x_is (f + 6 + k4) _ (MC 30) 0) = true; rw [show x_kd 30 = 0 by decide +kernel, show MC 30 = 3 by decide +kernel, (x_isP (PT_f hf g6) hw.1)]; rfl) s8 ?_
    refine e_ld (pc' := 19) i16_18 rfl rfl ?_
    refine e_get (w := .ref (f + 3)) (pc' := 22) i16_19 rfl (x_isF hf w10.1) (x_fvR (by decide +kernel) (w10.2 _ _ _ (FL_lk4 hf))) ?_
    refine e_ld (pc' := 23) i16_22 rfl rfl ?_
    refine e_cn (pc' := 24) i16_23 rfl ?_
    refine e_as (n := k4) (h' := sI h7 (f + 3) k4 (-1)) (pc' := 25) i16_24 rfl (x_alE (a := 20) (FL_lt3 hf) w10.1 (FL_sh3 hf) (by decide) e5 g6 (by decide)) (x_clE e5 g6 (by decide)) (by rw [(show (SH (f + 3)).1 = 20 by rw [FL_sh3 hf])]; rfl) ?_
    have w12 : HW (sI h7 (f + 3) k4 (-1)) := HW_sI w10
    refine e_inc (z := l1 + 1) (ls' := [some (.ref f), some (.int (l1 + 1)), z2]) (pc' := 28) i16_25 rfl rfl rfl rfl ?_
    refine e_go i16_28 ?_
    exact H
set_option maxHeartbeats 8000000 in
set_option maxRecDepth 100000 in
theorem v16_33 {L : Nat} {xs : Nat → Int32} {Q : Option Value → Hp → Prop} {h : Hp} {f : Nat} {l1 : Int32} {z2 : Option Value} (hw : HW h) (hf : FL f)
  (H : ((144 ≤ l1) → (WP L xs 16 145 [some (.ref f), some (.int 0), some (.int 0)] [] h Q)) ∧ (¬ (144 ≤ l1) → (∃ k4 : Nat, l1 = nI k4 ∧ k4 < 144 ∧ ∃ (r8 : Int32), Sp L xs 34 [.ref (f + 6 + k4)] h (some (.int r8)) h ∧ ((r8 = 0) → (WP L xs 16 33 [some (.ref f), some (.int (l1 + 1)), some (.int r8)] [] h Q)) ∧ (¬ (r8 = 0) → ((((gI h (f + 6 + k4) 0) = 2) → (∃ (h13 : Hp), Sp L xs 17 [.ref f, .int l1, .int (gI h (f + 6 + k4) 1)] h none h13 ∧ WP L xs 16 33 [some (.ref f), some (.int (l1 + 1)), some (.int r8)] [] h13 Q)) ∧ (¬ ((gI h (f + 6 + k4) 0) = 2) → ((((gI h (f + 6 + k4) 0) = 4) → (∃ (h17 : Hp), Sp L xs 18 [.ref f, .int l1, .ref (f + 6 + k4)] h none h17 ∧ WP L xs 16 33 [some (.ref f), some (.int (l1 + 1)), some (.int r8)] [] h17 Q)) ∧ (¬ ((gI h (f + 6 + k4) 0) = 4) → (∃ (r22 : Int32) (h20 : Hp), Sp L xs 19 [.ref f, .int l1, .int (gI h (f + 6 + k4) 1), .int r8] h (some (.int r22)) h20 ∧ WP L xs 16 33 [some (.ref f), some (.int (l1 + 1)), some (.int r8)] [] h20 Q))))))))) : WP L xs 16 33 [some (.ref f), some (.int l1), z2] [] h Q := by
  refine e_ld (pc' := 34) i16_33 rfl rfl ?_
  refine e_cn (pc' := 37) i16_34 rfl ?_
  refine e_ic (pc' := 40) i16_37 rfl (fun c1 => ?_) (fun c1 => ?_)
  · have d2 : 144 ≤ l1 := (of_decide_eq_true c1)
    replace H := H.1 d2
    refine e_cn (pc' := 142) i16_141 rfl ?_
    refine e_st (ls' := [some (.ref f), some (.int 0), z2]) (pc' := 143) i16_142 rfl rfl rfl ?_
    refine e_cn (pc' := 144) i16_143 rfl ?_
    refine e_st (ls' := [some (.ref f), some (.int 0), some (.int 0)]) (pc' := 145) i16_144 rfl rfl rfl ?_
    exact H
  · have d3 : ¬ (144 ≤ l1) := (of_decide_eq_false c1)
    replace H := H.2 d3
    refine e_ld (pc' := 41) i16_40 rfl rfl ?_
    refine e_get (w := .ref (f + 1)) (pc' := 44) i16_41 rfl (x_isF hf hw.1) (x_fvR (by decide +kernel) (hw.2 _ _ _ (FL_lk1 hf))) ?_
    refine e_ld (pc' := 45) i16_44 rfl rfl ?_
    obtain ⟨k4, e5, g6, H⟩ := H
    refine e_al (n := k4) (w := .ref (f + 6 + k4)) (pc' := 46) i16_45 rfl (x_alE (a := 23) (FL_lt1 hf) hw.1 (FL_sh1 hf) (by decide) e5 g6 (by decide)) (x_clE e5 g6 (by decide)) (x_agR (hw.2 _ _ _ (LK_pf hf g6))) ?_
    obtain ⟨r8, s7, H⟩ := H
    refine e_cI (w := .int r8) (As := [.ref (f + 6 + k4)]) (rest := []) (pc' := 49) i16_46 rfl rfl rfl rfl (by show (Nat.beq (x_kd 34) 0 && x_is (f + 6 + k4) _ (MC 34) 0) = true; rw [show x_kd 34 = 0 by decide +kernel, show MC 34 = 3 by decide +kernel, (x_isP (PT_f hf g6) hw.1)]; rfl) s7 ?_
    refine e_st (ls' := [some (.ref f), some (.int l1), some (.int r8)]) (pc' := 50) i16_49 rfl rfl rfl ?_
    refine e_ld (pc' := 51) i16_50 rfl rfl ?_
    refine e_if (pc' := 54) i16_51 rfl (fun c9 => ?_) (fun c9 => ?_)
    · have d10 : r8 = 0 := (of_decide_eq_true c9)
      replace H := H.1 d10
      refine e_inc (z := l1 + 1) (ls' := [some (.ref f), some (.int (l1 + 1)), some (.int r8)]) (pc' := 138) i16_135 rfl rfl rfl rfl ?_
      refine e_go i16_138 ?_
      exact H
    · have d11 : ¬ (r8 = 0) := (of_decide_eq_false c9)
      replace H := H.2 d11
      refine e_ld (pc' := 55) i16_54 rfl rfl ?_
      refine e_get (w := .ref (f + 1)) (pc' := 58) i16_55 rfl (x_isF hf hw.1) (x_fvR (by decide +kernel) (hw.2 _ _ _ (FL_lk1 hf))) ?_
      refine e_ld (pc' := 59) i16_58 rfl rfl ?_
      refine e_al (n := k4) (w := .ref (f + 6 + k4)) (pc' := 60) i16_59 rfl (x_alE (a := 23) (FL_lt1 hf) hw.1 (FL_sh1 hf) (by decide) e5 g6 (by decide)) (x_clE e5 g6 (by decide)) (x_agR (hw.2 _ _ _ (LK_pf hf g6))) ?_
      refine e_get (w := .int (gI h (f + 6 + k4) 0)) (pc' := 63) i16_60 rfl (x_isP (PT_f hf g6) hw.1) rfl ?_
      by_cases c12 : (gI h (f + 6 + k4) 0) = 2
      · replace H := H.1 c12
        refine e_lk (pc' := 88) i16_63 (by rw [c12]; rfl) ?_
        refine e_ld (pc' := 89) i16_88 rfl rfl ?_
        refine e_ld (pc' := 90) i16_89 rfl rfl ?_
        refine e_ld (pc' := 91) i16_90 rfl rfl ?_
        refine e_get (w := .ref (f + 1)) (pc' := 94) i16_91 rfl (x_isF hf hw.1) (x_fvR (by decide +kernel) (hw.2 _ _ _ (FL_lk1 hf))) ?_
        refine e_ld (pc' := 95) i16_94 rfl rfl ?_
        refine e_al (n := k4) (w := .ref (f + 6 + k4)) (pc' := 96) i16_95 rfl (x_alE (a := 23) (FL_lt1 hf) hw.1 (FL_sh1 hf) (by decide) e5 g6 (by decide)) (x_clE e5 g6 (by decide)) (x_agR (hw.2 _ _ _ (LK_pf hf g6))) ?_
        refine e_get (w := .int (gI h (f + 6 + k4) 1)) (pc' := 99) i16_96 rfl (x_isP (PT_f hf g6) hw.1) rfl ?_
        obtain ⟨h13, s14, H⟩ := H
        have w16q := HW_sp (show x_okm 17 = true by rfl) s14 hw
        have w16 : HW h13 := w16q.1
        refine e_cV (As := [.ref f, .int l1, .int (gI h (f + 6 + k4) 1)]) (rest := []) (pc' := 102) i16_99 rfl rfl rfl rfl (by show (Nat.beq (x_kd 17) 0 && x_is f _ (MC 17) 0) = true; rw [show x_kd 17 = 0 by decide +kernel, show MC 17 = 2 by decide +kernel, (x_isF hf hw.1)]; rfl) s14 ?_
        refine e_go i16_102 ?_
        refine e_inc (z := l1 + 1) (ls' := [some (.ref f), some (.int (l1 + 1)), some (.int r8)]) (pc' := 138) i16_135 rfl rfl rfl rfl ?_
        refine e_go i16_138 ?_
        exact H
      · replace H := H.2 c12
        by_cases c16 : (gI h (f + 6 + k4) 0) = 4
        · replace H := H.1 c16
          refine e_lk (pc' := 105) i16_63 (by rw [c16]; rfl) ?_
          refine e_ld (pc' := 106) i16_105 rfl rfl ?_
          refine e_ld (pc' := 107) i16_106 rfl rfl ?_
          refine e_ld (pc' := 108) i16_107 rfl rfl ?_
          refine e_get (w := .ref (f + 1)) (pc' := 111) i16_108 rfl (x_isF hf hw.1) (x_fvR (by decide +kernel) (hw.2 _ _ _ (FL_lk1 hf))) ?_
          refine e_ld (pc' := 112) i16_111 rfl rfl ?_
          refine e_al (n := k4) (w := .ref (f + 6 + k4)) (pc' := 113) i16_112 rfl (x_alE (a := 23) (FL_lt1 hf) hw.1 (FL_sh1 hf) (by decide) e5 g6 (by decide)) (x_clE e5 g6 (by decide)) (x_agR (hw.2 _ _ _ (LK_pf hf g6))) ?_
          obtain ⟨h17, s18, H⟩ := H
          have w20q := HW_sp (show x_okm 18 = true by rfl) s18 hw
          have w20 : HW h17 := w20q.1
          refine e_cV (As := [.ref f, .int l1, .ref (f + 6 + k4)]) (rest := []) (pc' := 116) i16_113 rfl rfl rfl rfl (by show (Nat.beq (x_kd 18) 0 && x_is f _ (MC 18) 0) = true; rw [show x_kd 18 = 0 by decide +kernel, show MC 18 = 2 by decide +kernel, (x_isF hf hw.1)]; rfl) s18 ?_
          refine e_go i16_116 ?_
          refine e_inc (z := l1 + 1) (ls' := [some (.ref f), some (.int (l1 + 1)), some (.int r8)]) (pc' := 138) i16_135 rfl rfl rfl rfl ?_
          refine e_go i16_138 ?_
          exact H
        · replace H := H.2 c16
          refine e_lk (pc' := 119) i16_63 (x_lkN (by decide) c12 (x_lkN (by decide) c16 rfl)) ?_
          refine e_ld (pc' := 120) i16_119 rfl rfl ?_
          refine e_ld (pc' := 121) i16_120 rfl rfl ?_
          refine e_ld (pc' := 122) i16_121 rfl rfl ?_
          refine e_get (w := .ref (f + 1)) (pc' := 125) i16_122 rfl (x_isF hf hw.1) (x_fvR (by decide +kernel) (hw.2 _ _ _ (FL_lk1 hf))) ?_
          refine e_ld (pc' := 126) i16_125 rfl rfl ?_
          refine e_al (n := k4) (w := .ref (f + 6 + k4)) (pc' := 127) i16_126 rfl (x_alE (a := 23) (FL_lt1 hf) hw.1 (FL_sh1 hf) (by decide) e5 g6 (by decide)) (x_clE e5 g6 (by decide)) (x_agR (hw.2 _ _ _ (LK_pf hf g6))) ?_
          refine e_get (w := .int (gI h (f + 6 + k4) 1)) (pc' := 130) i16_127 rfl (x_isP (PT_f hf g6) hw.1) rfl ?_
          refine e_ld (pc' := 131) i16_130 rfl rfl ?_
          obtain ⟨r22, h20, s21, H⟩ := H
          have w24q := HW_sp (show x_okm 19 = true by rfl) s21 hw
          have w24 : HW h20 := w24q.1
          refine e_cI (w := .int r22) (As := [.ref f, .int l1, .int (gI h (f + 6 + k4) 1), .int r8]) (rest := []) (pc' := 134) i16_131 rfl rfl rfl rfl (by show (Nat.beq (x_kd 19) 0 && x_is f _ (MC 19) 0) = true; rw [show x_kd 19 = 0 by decide +kernel, show MC 19 = 2 by decide +kernel, (x_isF hf hw.1)]; rfl) s21 ?_
          refine e_stk (pc' := 135) i16_134 rfl rfl ?_
          refine e_inc (z := l1 + 1) (ls' := [some (.ref f), some (.int (l1 + 1)), some (.int r8)]) (pc' := 138) i16_135 rfl rfl rfl rfl ?_
          refine e_go i16_138 ?_
          exact H
set_option maxHeartbeats 8000000 in
set_option maxRecDepth 100000 in
theorem v16_145 {L : Nat} {xs : Nat → Int32} {Q : Option Value → Hp → Prop} {h : Hp} {f : Nat} {l1 : Int32} {l2 : Int32} (hw : HW h) (hf : FL f)
  (H : ((144 ≤ l2) → (Q (some (.int l1)) (sI h f 3 ((gI h f 3) + 1)))) ∧ (¬ (144 ≤ l2) → (∃ k5 : Nat, l2 = nI k5 ∧ k5 < 144 ∧ (((gI h (f + 3) k5) = (-1)) → (WP L xs 16 145 [some (.ref f), some (.int l1), some (.int (l2 + 1))] [] h Q)) ∧ (¬ ((gI h (f + 3) k5) = (-1)) → (∃ (r13 : Int32) (h11 : Hp), Sp L xs 21 [.ref f, .int l2] h (some (.int r13)) h11 ∧ WP L xs 16 145 [some (.ref f), some (.int (l1 + r13)), some (.int (l2 + 1))] [] h11 Q))))) : WP L xs 16 145 [some (.ref f), some (.int l1), some (.int l2)] [] h Q := by
  refine e_ld (pc' := 146) i16_145 rfl rfl ?_
  refine e_cn (pc' := 149) i16_146 rfl ?_
  refine e_ic (pc' := 152) i16_149 rfl (fun c1 => ?_) (fun c1 => ?_)
  · have d2 : 144 ≤ l2 := (of_decide_eq_true c1)
    replace H := H.1 d2
    refine e_ld (pc' := 177) i16_176 rfl rfl ?_
    refine e_stk (pc' := 178) i16_177 rfl rfl ?_
    refine e_get (w := .int (gI h f 3)) (pc' := 181) i16_178 rfl (x_isF hf hw.1) rfl ?_
    refine e_cn (pc' := 182) i16_181 rfl ?_
    refine e_ib (z := (gI h f 3) + 1) (pc' := 183) i16_182 rfl rfl ?_
    refine e_put (h' := sI h f 3 ((gI h f 3) + 1)) (pc' := 186) i16_183 rfl (x_isF hf hw.1) rfl ?_
    have w4 : HW (sI h f 3 ((gI h f 3) + 1)) := HW_sI hw
    refine e_ld (pc' := 187) i16_186 rfl rfl ?_
    refine e_rt i16_187 rfl ?_
    exact H
  · have d4 : ¬ (144 ≤ l2) := (of_decide_eq_false c1)
    replace H := H.2 d4
    refine e_ld (pc' := 153) i16_152 rfl rfl ?_
    refine e_get (w := .ref (f + 3)) (pc' := 156) i16_153 rfl (x_isF hf hw.1) (x_fvR (by decide +kernel) (hw.2 _ _ _ (FL_lk4 hf))) ?_
    refine e_ld (pc' := 157) i16_156 rfl rfl ?_
    obtain ⟨k5, e6, g7, H⟩ := H
    refine e_al (n := k5) (w := .int (gI h (f + 3) k5)) (pc' := 158) i16_157 rfl (x_alE (a := 20) (FL_lt3 hf) hw.1 (FL_sh3 hf) (by decide) e6 g7 (by decide)) (x_clE e6 g7 (by decide)) rfl ?_
    refine e_cn (pc' := 159) i16_158 rfl ?_
    refine e_ic (pc' := 162) i16_159 rfl (fun c8 => ?_) (fun c8 => ?_)
    · have d9 : (gI h (f + 3) k5) = (-1) := (of_decide_eq_true c8)
      replace H := H.1 d9
      refine e_inc (z := l2 + 1) (ls' := [some (.ref f), some (.int l1), some (.int (l2 + 1))]) (pc' := 173) i16_170 rfl rfl rfl rfl ?_
      refine e_go i16_173 ?_
      exact H
    · have d10 : ¬ ((gI h (f + 3) k5) = (-1)) := (of_decide_eq_false c8)
      replace H := H.2 d10
      refine e_ld (pc' := 163) i16_162 rfl rfl ?_
      refine e_ld (pc' := 164) i16_163 rfl rfl ?_
      refine e_ld (pc' := 165) i16_164 rfl rfl ?_
      obtain ⟨r13, h11, s12, H⟩ := H
      have w15q := HW_sp (show x_okm 21 = true by rfl) s12 hw
      have w15 : HW h11 := w15q.1
      refine e_cI (w := .int r13) (As := [.ref f, .int l2]) (rest := [.int l1]) (pc' := 168) i16_165 rfl rfl rfl rfl (by show (Nat.beq (x_kd 21) 0 && x_is f _ (MC 21) 0) = true; rw [show x_kd 21 = 0 by decide +kernel, show MC 21 = 2 by decide +kernel, (x_isF hf hw.1)]; rfl) s12 ?_
      refine e_ib (z := l1 + r13) (pc' := 169) i16_168 rfl rfl ?_
      refine e_st (ls' := [some (.ref f), some (.int (l1 + r13)), some (.int l2)]) (pc' := 170) i16_169 rfl rfl rfl ?_
      refine e_inc (z := l2 + 1) (ls' := [some (.ref f), some (.int (l1 + r13)), some (.int (l2 + 1))]) (pc' := 173) i16_170 rfl rfl rfl rfl ?_
      refine e_go i16_173 ?_
      exact H
