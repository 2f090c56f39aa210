/-! Conditions of methods (made by wip/whole/vcmake.py). -/
-- FloorTurn$Piece.fits(LFloorTurn$Floor;II)Z
set_option maxHeartbeats 8000000 in
set_option maxRecDepth 100000 in
theorem v47 {L : Nat} {xs : Nat → Int32} {Q : Option Value → Hp → Prop} {h : Hp} {b : Nat} {y : Int32} {z : Int32} (hw : HW h) (hb : SB b)
  (H : WP L xs 47 3 [some (.ref (b + 3)), some (.ref 4), some (.int y), some (.int z), some (.int 0)] [] h Q) : ∃ r h', Sp L xs 47 [.ref (b + 3), .ref 4, .int y, .int z] h r h' ∧ Q r h' := by
  refine sp_ex (ls := [some (.ref (b + 3)), some (.ref 4), some (.int y), some (.int z), none]) rfl ?_
  refine e_cn (pc' := 1) i47_0 rfl ?_
  refine e_st (ls' := [some (.ref (b + 3)), some (.ref 4), some (.int y), some (.int z), some (.int 0)]) (pc' := 3) i47_1 rfl rfl rfl ?_
  exact H
set_option maxHeartbeats 8000000 in
set_option maxRecDepth 100000 in
theorem v47_3 {L : Nat} {xs : Nat → Int32} {Q : Option Value → Hp → Prop} {h : Hp} {b : Nat} {l2 : Int32} {l3 : Int32} {l4 : Int32} (hw : HW h) (hb : SB b)
  (H : (((gI h (b + 3) 8) ≤ l4) → (Q (some (.int 1)) h)) ∧ (¬ ((gI h (b + 3) 8) ≤ l4) → (∃ (r5 : Int32), Sp L xs 49 [.ref (b + 3), .int l4, .int l2, .int l3] h (some (.int r5)) h ∧ ∃ k6 : Nat, r5 = nI k6 ∧ k6 < 144 ∧ (((gI h (10 + k6) 0) = 0) → (WP L xs 47 3 [some (.ref (b + 3)), some (.ref 4), some (.int l2), some (.int l3), some (.int (l4 + 1))] [] h Q)) ∧ (¬ ((gI h (10 + k6) 0) = 0) → (Q (some (.int 0)) h))))) : WP L xs 47 3 [some (.ref (b + 3)), some (.ref 4), some (.int l2), some (.int l3), some (.int l4)] [] h Q := by
  refine e_ld (pc' := 5) i47_3 rfl rfl ?_
  refine e_ld (pc' := 6) i47_5 rfl rfl ?_
  refine e_get (w := .int (gI h (b + 3) 8)) (pc' := 9) i47_6 rfl (x_isB3 hb hw.1) rfl ?_
  refine e_ic (pc' := 12) i47_9 rfl (fun c1 => ?_) (fun c1 => ?_)
  · have d2 : (gI h (b + 3) 8) ≤ l4 := (of_decide_eq_true c1)
    replace H := H.1 d2
    refine e_cn (pc' := 40) i47_39 rfl ?_
    refine e_rt i47_40 rfl ?_
    exact H
  · have d3 : ¬ ((gI h (b + 3) 8) ≤ l4) := (of_decide_eq_false c1)
    replace H := H.2 d3
    refine e_ld (pc' := 13) i47_12 rfl rfl ?_
    refine e_get (w := .ref 5) (pc' := 16) i47_13 rfl (x_isC (by decide) hw.1 sh4) (x_fvR (by decide +kernel) (hw.2 4 1 5 lk4_1)) ?_
    refine e_ld (pc' := 17) i47_16 rfl rfl ?_
    refine e_ld (pc' := 19) i47_17 rfl rfl ?_
    refine e_ld (pc' := 20) i47_19 rfl rfl ?_
    refine e_ld (pc' := 21) i47_20 rfl rfl ?_
    obtain ⟨r5, s4, H⟩ := H
    refine e_cI (w := .int r5) (As := [.ref (b + 3), .int l4, .int l2, .int l3]) (rest := [.ref 5]) (pc' := 24) i47_21 rfl rfl rfl rfl (by show (Nat.beq (x_kd 49) 0 && x_is (b + 3) _ (MC 49) 0) = true; rw [show x_kd 49 = 0 by decide +kernel, show MC 49 = 4 by decide +kernel, (x_isB3 hb hw.1)]; rfl) s4 ?_
    obtain ⟨k6, e7, g8, H⟩ := H
    refine e_al (n := k6) (w := .ref (10 + k6)) (pc' := 25) i47_24 rfl (x_alE (a := 23) (by decide) hw.1 sh5 (by decide) e7 g8 (by decide)) (x_clE e7 g8 (by decide)) (x_agR (hw.2 _ _ _ (LK_p4 g8))) ?_
    refine e_get (w := .int (gI h (10 + k6) 0)) (pc' := 28) i47_25 rfl (x_isP (PT_4 g8) hw.1) rfl ?_
    refine e_if (pc' := 31) i47_28 rfl (fun c9 => ?_) (fun c9 => ?_)
    · have d10 : (gI h (10 + k6) 0) = 0 := (of_decide_eq_true c9)
      replace H := H.1 d10
      refine e_inc (z := l4 + 1) (ls' := [some (.ref (b + 3)), some (.ref 4), some (.int l2), some (.int l3), some (.int (l4 + 1))]) (pc' := 36) i47_33 rfl rfl rfl rfl ?_
      refine e_go i47_36 ?_
      exact H
    · have d11 : ¬ ((gI h (10 + k6) 0) = 0) := (of_decide_eq_false c9)
      replace H := H.2 d11
      refine e_cn (pc' := 32) i47_31 rfl ?_
      refine e_rt i47_32 rfl ?_
      exact H
-- FloorTurn$Piece.paste(LFloorTurn$Floor;II)V
set_option maxHeartbeats 8000000 in
set_option maxRecDepth 100000 in
theorem v48 {L : Nat} {xs : Nat → Int32} {Q : Option Value → Hp → Prop} {h : Hp} {b : Nat} {y : Int32} {z : Int32} (hw : HW h) (hb : SB b)
  (H : WP L xs 48 3 [some (.ref (b + 3)), some (.ref 4), some (.int y), some (.int z), some (.int 0)] [] h Q) : ∃ r h', Sp L xs 48 [.ref (b + 3), .ref 4, .int y, .int z] h r h' ∧ Q r h' := by
  refine sp_ex (ls := [some (.ref (b + 3)), some (.ref 4), some (.int y), some (.int z), none]) rfl ?_
  refine e_cn (pc' := 1) i48_0 rfl ?_
  refine e_st (ls' := [some (.ref (b + 3)), some (.ref 4), some (.int y), some (.int z), some (.int 0)]) (pc' := 3) i48_1 rfl rfl rfl ?_
  exact H
set_option maxHeartbeats 8000000 in
set_option maxRecDepth 100000 in
theorem v48_3 {L : Nat} {xs : Nat → Int32} {Q : Option Value → Hp → Prop} {h : Hp} {b : Nat} {l2 : Int32} {l3 : Int32} {l4 : Int32} (hw : HW h) (hb : SB b)
  (H : (((gI h (b + 3) 8) ≤ l4) → (Q none h)) ∧ (¬ ((gI h (b + 3) 8) ≤ l4) → (∃ (r5 : Int32), Sp L xs 49 [.ref (b + 3), .int l4, .int l2, .int l3] h (some (.int r5)) h ∧ ∃ k6 : Nat, l4 = nI k6 ∧ k6 < 144 ∧ ∃ (r10 : Int32), Sp L xs 50 [.ref (b + 3), .int l4, .int l3] h (some (.int r10)) h ∧ ∃ (h11 : Hp), Sp L xs 14 [.ref 4, .int r5, .int (gI h (b + 6) k6), .int r10, .int (gI h (b + 8) k6), .int (gI h (b + 9) k6)] h none h11 ∧ WP L xs 48 3 [some (.ref (b + 3)), some (.ref 4), some (.int l2), some (.int l3), some (.int (l4 + 1))] [] h11 Q))) : WP L xs 48 3 [some (.ref (b + 3)), some (.ref 4), some (.int l2), some (.int l3), some (.int l4)] [] h Q := by
  refine e_ld (pc' := 5) i48_3 rfl rfl ?_
  refine e_ld (pc' := 6) i48_5 rfl rfl ?_
  refine e_get (w := .int (gI h (b + 3) 8)) (pc' := 9) i48_6 rfl (x_isB3 hb hw.1) rfl ?_
  refine e_ic (pc' := 12) i48_9 rfl (fun c1 => ?_) (fun c1 => ?_)
  · have d2 : (gI h (b + 3) 8) ≤ l4 := (of_decide_eq_true c1)
    replace H := H.1 d2
    refine e_rt i48_58 rfl ?_
    exact H
  · have d3 : ¬ ((gI h (b + 3) 8) ≤ l4) := (of_decide_eq_false c1)
    replace H := H.2 d3
    refine e_ld (pc' := 13) i48_12 rfl rfl ?_
    refine e_ld (pc' := 14) i48_13 rfl rfl ?_
    refine e_ld (pc' := 16) i48_14 rfl rfl ?_
    refine e_ld (pc' := 17) i48_16 rfl rfl ?_
    refine e_ld (pc' := 18) i48_17 rfl rfl ?_
    obtain ⟨r5, s4, H⟩ := H
    refine e_cI (w := .int r5) (As := [.ref (b + 3), .int l4, .int l2, .int l3]) (rest := [.ref 4]) (pc' := 21) i48_18 rfl rfl rfl rfl (by show (Nat.beq (x_kd 49) 0 && x_is (b + 3) _ (MC 49) 0) = true; rw [show x_kd 49 = 0 by decide +kernel, show MC 49 = 4 by decide +kernel, (x_isB3 hb hw.1)]; rfl) s4 ?_
    refine e_ld (pc' := 22) i48_21 rfl rfl ?_
    refine e_get (w := .ref (b + 6)) (pc' := 25) i48_22 rfl (x_isB3 hb hw.1) (x_fvR (by decide +kernel) (hw.2 _ _ _ (SB_lk3_2 hb))) ?_
    refine e_ld (pc' := 27) i48_25 rfl rfl ?_
    obtain ⟨k6, e7, g8, H⟩ := H
    refine e_al (n := k6) (w := .int (gI h (b + 6) k6)) (pc' := 28) i48_27 rfl (x_alE (a := 20) (SB_lt6 hb) hw.1 (SB_sh6 hb) (by decide) e7 g8 (by decide)) (x_clE e7 g8 (by decide)) rfl ?_
    refine e_ld (pc' := 29) i48_28 rfl rfl ?_
    refine e_ld (pc' := 31) i48_29 rfl rfl ?_
    refine e_ld (pc' := 32) i48_31 rfl rfl ?_
    obtain ⟨r10, s9, H⟩ := H
    refine e_cI (w := .int r10) (As := [.ref (b + 3), .int l4, .int l3]) (rest := [.int (gI h (b + 6) k6), .int r5, .ref 4]) (pc' := 35) i48_32 rfl rfl rfl rfl (by show (Nat.beq (x_kd 50) 0 && x_is (b + 3) _ (MC 50) 0) = true; rw [show x_kd 50 = 0 by decide +kernel, show MC 50 = 4 by decide +kernel, (x_isB3 hb hw.1)]; rfl) s9 ?_
    refine e_ld (pc' := 36) i48_35 rfl rfl ?_
    refine e_get (w := .ref (b + 8)) (pc' := 39) i48_36 rfl (x_isB3 hb hw.1) (x_fvR (by decide +kernel) (hw.2 _ _ _ (SB_lk3_4 hb))) ?_
    refine e_ld (pc' := 41) i48_39 rfl rfl ?_
    refine e_al (n := k6) (w := .int (gI h (b + 8) k6)) (pc' := 42) i48_41 rfl (x_alE (a := 20) (SB_lt8 hb) hw.1 (SB_sh8 hb) (by decide) e7 g8 (by decide)) (x_clE e7 g8 (by decide)) rfl ?_
    refine e_ld (pc' := 43) i48_42 rfl rfl ?_
    refine e_get (w := .ref (b + 9)) (pc' := 46) i48_43 rfl (x_isB3 hb hw.1) (x_fvR (by decide +kernel) (hw.2 _ _ _ (SB_lk3_5 hb))) ?_
    refine e_ld (pc' := 48) i48_46 rfl rfl ?_
    refine e_al (n := k6) (w := .int (gI h (b + 9) k6)) (pc' := 49) i48_48 rfl (x_alE (a := 20) (SB_lt9 hb) hw.1 (SB_sh9 hb) (by decide) e7 g8 (by decide)) (x_clE e7 g8 (by decide)) rfl ?_
    obtain ⟨h11, s12, H⟩ := H
    have w14q := HW_sp (show x_okm 14 = true by rfl) s12 hw
    have w14 : HW h11 := w14q.1
    refine e_cV (As := [.ref 4, .int r5, .int (gI h (b + 6) k6), .int r10, .int (gI h (b + 8) k6), .int (gI h (b + 9) k6)]) (rest := []) (pc' := 52) i48_49 rfl rfl rfl rfl (by show (Nat.beq (x_kd 14) 0 && x_is 4 _ (MC 14) 0) = true; rw [show x_kd 14 = 0 by decide +kernel, show MC 14 = 2 by decide +kernel, (x_isC (by decide) hw.1 sh4)]; rfl) s12 ?_
    refine e_inc (z := l4 + 1) (ls' := [some (.ref (b + 3)), some (.ref 4), some (.int l2), some (.int l3), some (.int (l4 + 1))]) (pc' := 55) i48_52 rfl rfl rfl rfl ?_
    refine e_go i48_55 ?_
    exact H
-- FloorTurn$Piece.cellOf(III)I
set_option maxHeartbeats 8000000 in
set_option maxRecDepth 100000 in
theorem v49 {L : Nat} {xs : Nat → Int32} {Q : Option Value → Hp → Prop} {h : Hp} {b : Nat} {x : Int32} {y : Int32} {z : Int32} (hw : HW h) (hb : SB b)
  (H : ∃ k1 : Nat, x = nI k1 ∧ k1 < 144 ∧ ((z = 0) → (Q (some (.int ((y + (12 * (gI h (b + 5) k1))) + (gI h (b + 4) k1)))) h)) ∧ (¬ (z = 0) → (((z = 1) → (Q (some (.int ((y + (12 * (gI h (b + 4) k1))) + (((gI h (b + 3) 7) - 1) - (gI h (b + 5) k1))))) h)) ∧ (¬ (z = 1) → (((z = 2) → (Q (some (.int ((y + (12 * (((gI h (b + 3) 7) - 1) - (gI h (b + 5) k1)))) + (((gI h (b + 3) 6) - 1) - (gI h (b + 4) k1))))) h)) ∧ (¬ (z = 2) → (Q (some (.int ((y + (12 * (((gI h (b + 3) 6) - 1) - (gI h (b + 4) k1)))) + (gI h (b + 5) k1)))) h))))))) : ∃ r h', Sp L xs 49 [.ref (b + 3), .int x, .int y, .int z] h r h' ∧ Q r h' := by
  refine sp_ex (ls := [some (.ref (b + 3)), some (.int x), some (.int y), some (.int z), none, none]) rfl ?_
  refine e_ld (pc' := 1) i49_0 rfl rfl ?_
  refine e_get (w := .int (gI h (b + 3) 6)) (pc' := 4) i49_1 rfl (x_isB3 hb hw.1) rfl ?_
  refine e_cn (pc' := 5) i49_4 rfl ?_
  refine e_ib (z := (gI h (b + 3) 6) - 1) (pc' := 6) i49_5 rfl rfl ?_
  refine e_ld (pc' := 7) i49_6 rfl rfl ?_
  refine e_get (w := .ref (b + 4)) (pc' := 10) i49_7 rfl (x_isB3 hb hw.1) (x_fvR (by decide +kernel) (hw.2 _ _ _ (SB_lk3_0 hb))) ?_
  refine e_ld (pc' := 11) i49_10 rfl rfl ?_
  obtain ⟨k1, e2, g3, H⟩ := H
  refine e_al (n := k1) (w := .int (gI h (b + 4) k1)) (pc' := 12) i49_11 rfl (x_alE (a := 20) (SB_lt4 hb) hw.1 (SB_sh4 hb) (by decide) e2 g3 (by decide)) (x_clE e2 g3 (by decide)) rfl ?_
  refine e_ib (z := ((gI h (b + 3) 6) - 1) - (gI h (b + 4) k1)) (pc' := 13) i49_12 rfl rfl ?_
  refine e_st (ls' := [some (.ref (b + 3)), some (.int x), some (.int y), some (.int z), some (.int (((gI h (b + 3) 6) - 1) - (gI h (b + 4) k1))), none]) (pc' := 15) i49_13 rfl rfl rfl ?_
  refine e_ld (pc' := 16) i49_15 rfl rfl ?_
  refine e_get (w := .int (gI h (b + 3) 7)) (pc' := 19) i49_16 rfl (x_isB3 hb hw.1) rfl ?_
  refine e_cn (pc' := 20) i49_19 rfl ?_
  refine e_ib (z := (gI h (b + 3) 7) - 1) (pc' := 21) i49_20 rfl rfl ?_
  refine e_ld (pc' := 22) i49_21 rfl rfl ?_
  refine e_get (w := .ref (b + 5)) (pc' := 25) i49_22 rfl (x_isB3 hb hw.1) (x_fvR (by decide +kernel) (hw.2 _ _ _ (SB_lk3_1 hb))) ?_
  refine e_ld (pc' := 26) i49_25 rfl rfl ?_
  refine e_al (n := k1) (w := .int (gI h (b + 5) k1)) (pc' := 27) i49_26 rfl (x_alE (a := 20) (SB_lt5 hb) hw.1 (SB_sh5 hb) (by decide) e2 g3 (by decide)) (x_clE e2 g3 (by decide)) rfl ?_
  refine e_ib (z := ((gI h (b + 3) 7) - 1) - (gI h (b + 5) k1)) (pc' := 28) i49_27 rfl rfl ?_
  refine e_st (ls' := [some (.ref (b + 3)), some (.int x), some (.int y), some (.int z), some (.int (((gI h (b + 3) 6) - 1) - (gI h (b + 4) k1))), some (.int (((gI h (b + 3) 7) - 1) - (gI h (b + 5) k1)))]) (pc' := 30) i49_28 rfl rfl rfl ?_
  refine e_ld (pc' := 31) i49_30 rfl rfl ?_
  by_cases c4 : z = 0
  · replace H := H.1 c4
    refine e_tab (pc' := 56) i49_31 (by rw [c4]; rfl) ?_
    refine e_ld (pc' := 57) i49_56 rfl rfl ?_
    refine e_cn (pc' := 59) i49_57 rfl ?_
    refine e_ld (pc' := 60) i49_59 rfl rfl ?_
    refine e_get (w := .ref (b + 5)) (pc' := 63) i49_60 rfl (x_isB3 hb hw.1) (x_fvR (by decide +kernel) (hw.2 _ _ _ (SB_lk3_1 hb))) ?_
    refine e_ld (pc' := 64) i49_63 rfl rfl ?_
    refine e_al (n := k1) (w := .int (gI h (b + 5) k1)) (pc' := 65) i49_64 rfl (x_alE (a := 20) (SB_lt5 hb) hw.1 (SB_sh5 hb) (by decide) e2 g3 (by decide)) (x_clE e2 g3 (by decide)) rfl ?_
    refine e_ib (z := 12 * (gI h (b + 5) k1)) (pc' := 66) i49_65 rfl rfl ?_
    refine e_ib (z := y + (12 * (gI h (b + 5) k1))) (pc' := 67) i49_66 rfl rfl ?_
    refine e_ld (pc' := 68) i49_67 rfl rfl ?_
    refine e_get (w := .ref (b + 4)) (pc' := 71) i49_68 rfl (x_isB3 hb hw.1) (x_fvR (by decide +kernel) (hw.2 _ _ _ (SB_lk3_0 hb))) ?_
    refine e_ld (pc' := 72) i49_71 rfl rfl ?_
    refine e_al (n := k1) (w := .int (gI h (b + 4) k1)) (pc' := 73) i49_72 rfl (x_alE (a := 20) (SB_lt4 hb) hw.1 (SB_sh4 hb) (by decide) e2 g3 (by decide)) (x_clE e2 g3 (by decide)) rfl ?_
    refine e_ib (z := (y + (12 * (gI h (b + 5) k1))) + (gI h (b + 4) k1)) (pc' := 74) i49_73 rfl rfl ?_
    refine e_rt i49_74 rfl ?_
    exact H
  · replace H := H.2 c4
    by_cases c5 : z = 1
    · replace H := H.1 c5
      refine e_tab (pc' := 75) i49_31 (by rw [c5]; rfl) ?_
      refine e_ld (pc' := 76) i49_75 rfl rfl ?_
      refine e_cn (pc' := 78) i49_76 rfl ?_
      refine e_ld (pc' := 79) i49_78 rfl rfl ?_
      refine e_get (w := .ref (b + 4)) (pc' := 82) i49_79 rfl (x_isB3 hb hw.1) (x_fvR (by decide +kernel) (hw.2 _ _ _ (SB_lk3_0 hb))) ?_
      refine e_ld (pc' := 83) i49_82 rfl rfl ?_
      refine e_al (n := k1) (w := .int (gI h (b + 4) k1)) (pc' := 84) i49_83 rfl (x_alE (a := 20) (SB_lt4 hb) hw.1 (SB_sh4 hb) (by decide) e2 g3 (by decide)) (x_clE e2 g3 (by decide)) rfl ?_
      refine e_ib (z := 12 * (gI h (b + 4) k1)) (pc' := 85) i49_84 rfl rfl ?_
      refine e_ib (z := y + (12 * (gI h (b + 4) k1))) (pc' := 86) i49_85 rfl rfl ?_
      refine e_ld (pc' := 88) i49_86 rfl rfl ?_
      refine e_ib (z := (y + (12 * (gI h (b + 4) k1))) + (((gI h (b + 3) 7) - 1) - (gI h (b + 5) k1))) (pc' := 89) i49_88 rfl rfl ?_
      refine e_rt i49_89 rfl ?_
      exact H
    · replace H := H.2 c5
      by_cases c6 : z = 2
      · replace H := H.1 c6
        refine e_tab (pc' := 90) i49_31 (by rw [c6]; rfl) ?_
        refine e_ld (pc' := 91) i49_90 rfl rfl ?_
        refine e_cn (pc' := 93) i49_91 rfl ?_
        refine e_ld (pc' := 95) i49_93 rfl rfl ?_
        refine e_ib (z := 12 * (((gI h (b + 3) 7) - 1) - (gI h (b + 5) k1))) (pc' := 96) i49_95 rfl rfl ?_
        refine e_ib (z := y + (12 * (((gI h (b + 3) 7) - 1) - (gI h (b + 5) k1)))) (pc' := 97) i49_96 rfl rfl ?_
        refine e_ld (pc' := 99) i49_97 rfl rfl ?_
        refine e_ib (z := (y + (12 * (((gI h (b + 3) 7) - 1) - (gI h (b + 5) k1)))) + (((gI h (b + 3) 6) - 1) - (gI h (b + 4) k1))) (pc' := 100) i49_99 rfl rfl ?_
        refine e_rt i49_100 rfl ?_
        exact H
      · replace H := H.2 c6
        refine e_tab (pc' := 101) i49_31 (x_tgt_out (by decide) (fun k (hk : k < 3) => by rcases (show k = 0 ∨ k = 1 ∨ k = 2 by omega) with rfl | rfl | rfl <;> assumption)) ?_
        refine e_ld (pc' := 102) i49_101 rfl rfl ?_
        refine e_cn (pc' := 104) i49_102 rfl ?_
        refine e_ld (pc' := 106) i49_104 rfl rfl ?_
        refine e_ib (z := 12 * (((gI h (b + 3) 6) - 1) - (gI h (b + 4) k1))) (pc' := 107) i49_106 rfl rfl ?_
        refine e_ib (z := y + (12 * (((gI h (b + 3) 6) - 1) - (gI h (b + 4) k1)))) (pc' := 108) i49_107 rfl rfl ?_
        refine e_ld (pc' := 109) i49_108 rfl rfl ?_
        refine e_get (w := .ref (b + 5)) (pc' := 112) i49_109 rfl (x_isB3 hb hw.1) (x_fvR (by decide +kernel) (hw.2 _ _ _ (SB_lk3_1 hb))) ?_
        refine e_ld (pc' := 113) i49_112 rfl rfl ?_
        refine e_al (n := k1) (w := .int (gI h (b + 5) k1)) (pc' := 114) i49_113 rfl (x_alE (a := 20) (SB_lt5 hb) hw.1 (SB_sh5 hb) (by decide) e2 g3 (by decide)) (x_clE e2 g3 (by decide)) rfl ?_
        refine e_ib (z := (y + (12 * (((gI h (b + 3) 6) - 1) - (gI h (b + 4) k1)))) + (gI h (b + 5) k1)) (pc' := 115) i49_114 rfl rfl ?_
        refine e_rt i49_115 rfl ?_
        exact H
-- FloorTurn$Piece.turnedSide(II)I
set_option maxHeartbeats 8000000 in
set_option maxRecDepth 100000 in
theorem v50 {L : Nat} {xs : Nat → Int32} {Q : Option Value → Hp → Prop} {h : Hp} {b : Nat} {x : Int32} {y : Int32} (hw : HW h) (hb : SB b)
  (H : ∃ k1 : Nat, x = nI k1 ∧ k1 < 144 ∧ (((gI h (b + 6) k1) = 4) → (Q (some (.int ((((gI h (b + 7) k1) <<< ((y : Int32) &&& 31)) ||| ((gI h (b + 7) k1) >>> (((4 - y) : Int32) &&& 31))) &&& 15))) h)) ∧ (¬ ((gI h (b + 6) k1) = 4) → (Q (some (.int (((gI h (b + 7) k1) + y) &&& 3))) h))) : ∃ r h', Sp L xs 50 [.ref (b + 3), .int x, .int y] h r h' ∧ Q r h' := by
  refine sp_ex (ls := [some (.ref (b + 3)), some (.int x), some (.int y)]) rfl ?_
  refine e_ld (pc' := 1) i50_0 rfl rfl ?_
  refine e_get (w := .ref (b + 6)) (pc' := 4) i50_1 rfl (x_isB3 hb hw.1) (x_fvR (by decide +kernel) (hw.2 _ _ _ (SB_lk3_2 hb))) ?_
  refine e_ld (pc' := 5) i50_4 rfl rfl ?_
  obtain ⟨k1, e2, g3, H⟩ := H
  refine e_al (n := k1) (w := .int (gI h (b + 6) k1)) (pc' := 6) i50_5 rfl (x_alE (a := 20) (SB_lt6 hb) hw.1 (SB_sh6 hb) (by decide) e2 g3 (by decide)) (x_clE e2 g3 (by decide)) rfl ?_
  refine e_cn (pc' := 7) i50_6 rfl ?_
  refine e_ic (pc' := 10) i50_7 rfl (fun c4 => ?_) (fun c4 => ?_)
  · have d5 : ¬ ((gI h (b + 6) k1) = 4) := (of_decide_eq_true c4)
    replace H := H.2 d5
    refine e_ld (pc' := 34) i50_33 rfl rfl ?_
    refine e_get (w := .ref (b + 7)) (pc' := 37) i50_34 rfl (x_isB3 hb hw.1) (x_fvR (by decide +kernel) (hw.2 _ _ _ (SB_lk3_3 hb))) ?_
    refine e_ld (pc' := 38) i50_37 rfl rfl ?_
    refine e_al (n := k1) (w := .int (gI h (b + 7) k1)) (pc' := 39) i50_38 rfl (x_alE (a := 20) (SB_lt7 hb) hw.1 (SB_sh7 hb) (by decide) e2 g3 (by decide)) (x_clE e2 g3 (by decide)) rfl ?_
    refine e_ld (pc' := 40) i50_39 rfl rfl ?_
    refine e_ib (z := (gI h (b + 7) k1) + y) (pc' := 41) i50_40 rfl rfl ?_
    refine e_cn (pc' := 42) i50_41 rfl ?_
    refine e_ib (z := ((gI h (b + 7) k1) + y) &&& 3) (pc' := 43) i50_42 rfl rfl ?_
    refine e_rt i50_43 rfl ?_
    exact H
  · have d6 : (gI h (b + 6) k1) = 4 := (Decidable.not_not.mp (of_decide_eq_false c4))
    replace H := H.1 d6
    refine e_ld (pc' := 11) i50_10 rfl rfl ?_
    refine e_get (w := .ref (b + 7)) (pc' := 14) i50_11 rfl (x_isB3 hb hw.1) (x_fvR (by decide +kernel) (hw.2 _ _ _ (SB_lk3_3 hb))) ?_
    refine e_ld (pc' := 15) i50_14 rfl rfl ?_
    refine e_al (n := k1) (w := .int (gI h (b + 7) k1)) (pc' := 16) i50_15 rfl (x_alE (a := 20) (SB_lt7 hb) hw.1 (SB_sh7 hb) (by decide) e2 g3 (by decide)) (x_clE e2 g3 (by decide)) rfl ?_
    refine e_ld (pc' := 17) i50_16 rfl rfl ?_
    refine e_ib (z := (gI h (b + 7) k1) <<< ((y : Int32) &&& 31)) (pc' := 18) i50_17 rfl rfl ?_
    refine e_ld (pc' := 19) i50_18 rfl rfl ?_
    refine e_get (w := .ref (b + 7)) (pc' := 22) i50_19 rfl (x_isB3 hb hw.1) (x_fvR (by decide +kernel) (hw.2 _ _ _ (SB_lk3_3 hb))) ?_
    refine e_ld (pc' := 23) i50_22 rfl rfl ?_
    refine e_al (n := k1) (w := .int (gI h (b + 7) k1)) (pc' := 24) i50_23 rfl (x_alE (a := 20) (SB_lt7 hb) hw.1 (SB_sh7 hb) (by decide) e2 g3 (by decide)) (x_clE e2 g3 (by decide)) rfl ?_
    refine e_cn (pc' := 25) i50_24 rfl ?_
    refine e_ld (pc' := 26) i50_25 rfl rfl ?_
    refine e_ib (z := 4 - y) (pc' := 27) i50_26 rfl rfl ?_
    refine e_ib (z := (gI h (b + 7) k1) >>> (((4 - y) : Int32) &&& 31)) (pc' := 28) i50_27 rfl rfl ?_
    refine e_ib (z := ((gI h (b + 7) k1) <<< ((y : Int32) &&& 31)) ||| ((gI h (b + 7) k1) >>> (((4 - y) : Int32) &&& 31))) (pc' := 29) i50_28 rfl rfl ?_
    refine e_cn (pc' := 31) i50_29 rfl ?_
    refine e_ib (z := (((gI h (b + 7) k1) <<< ((y : Int32) &&& 31)) ||| ((gI h (b + 7) k1) >>> (((4 - y) : Int32) &&& 31))) &&& 15) (pc' := 32) i50_31 rfl rfl ?_
    refine e_rt i50_32 rfl ?_
    exact H
-- FloorTurn$Planner.plan(LFloorTurn$Book;III)I
set_option maxHeartbeats 8000000 in
set_option maxRecDepth 100000 in
theorem v52 {L : Nat} {xs : Nat → Int32} {Q : Option Value → Hp → Prop} {h : Hp} {y : Int32} {z : Int32} {u : Int32} (hw : HW h) 
  (H : ∃ (r2 : Int32), Sp L xs 3 [.ref 2, .int y] h (some (.int r2)) h ∧ ∃ (h3 : Hp), Sp L xs 53 [.ref 393, .ref 2] h none h3 ∧ ((r2 = (-1)) → (Q (some (.int (-1))) h3)) ∧ (¬ (r2 = (-1)) → (∃ (r10 : Int32), Sp L xs 56 [.ref 393, .int r2] h3 (some (.int r10)) h3 ∧ ((r10 = 0) → (WP L xs 52 39 [some (.ref 393), some (.ref 2), some (.int y), some (.int z), some (.int u), some (.int r2), some (.int 0)] [] (sL h3 393 3 u.toInt64) Q)) ∧ (¬ (r10 = 0) → (Q (some (.int (-1))) h3))))) : ∃ r h', Sp L xs 52 [.ref 393, .ref 2, .int y, .int z, .int u] h r h' ∧ Q r h' := by
  refine sp_ex (ls := [some (.ref 393), some (.ref 2), some (.int y), some (.int z), some (.int u), none, none]) rfl ?_
  refine e_ld (pc' := 1) i52_0 rfl rfl ?_
  refine e_ld (pc' := 2) i52_1 rfl rfl ?_
  obtain ⟨r2, s1, H⟩ := H
  refine e_cI (w := .int r2) (As := [.ref 2, .int y]) (rest := []) (pc' := 5) i52_2 rfl rfl rfl rfl (by show (Nat.beq (x_kd 3) 0 && x_is 2 _ (MC 3) 0) = true; rw [show x_kd 3 = 0 by decide +kernel, show MC 3 = 0 by decide +kernel, (x_isC (by decide) hw.1 sh2)]; rfl) s1 ?_
  refine e_st (ls' := [some (.ref 393), some (.ref 2), some (.int y), some (.int z), some (.int u), some (.int r2), none]) (pc' := 7) i52_5 rfl rfl rfl ?_
  refine e_ld (pc' := 8) i52_7 rfl rfl ?_
  refine e_ld (pc' := 9) i52_8 rfl rfl ?_
  obtain ⟨h3, s4, H⟩ := H
  have w6q := HW_sp (show x_okm 53 = true by rfl) s4 hw
  have w6 : HW h3 := w6q.1
  refine e_cV (As := [.ref 393, .ref 2]) (rest := []) (pc' := 12) i52_9 rfl rfl rfl rfl (by show (Nat.beq (x_kd 53) 0 && x_is 393 _ (MC 53) 0) = true; rw [show x_kd 53 = 0 by decide +kernel, show MC 53 = 5 by decide +kernel, (x_isC (by decide) hw.1 sh393)]; rfl) s4 ?_
  refine e_ld (pc' := 14) i52_12 rfl rfl ?_
  refine e_cn (pc' := 15) i52_14 rfl ?_
  refine e_ic (pc' := 18) i52_15 rfl (fun c6 => ?_) (fun c6 => ?_)
  · have d7 : r2 = (-1) := (of_decide_eq_true c6)
    replace H := H.1 d7
    refine e_cn (pc' := 28) i52_27 rfl ?_
    refine e_rt i52_28 rfl ?_
    exact H
  · have d8 : ¬ (r2 = (-1)) := (of_decide_eq_false c6)
    replace H := H.2 d8
    refine e_ld (pc' := 19) i52_18 rfl rfl ?_
    refine e_ld (pc' := 21) i52_19 rfl rfl ?_
    obtain ⟨r10, s9, H⟩ := H
    refine e_cI (w := .int r10) (As := [.ref 393, .int r2]) (rest := []) (pc' := 24) i52_21 rfl rfl rfl rfl (by show (Nat.beq (x_kd 56) 0 && x_is 393 _ (MC 56) 0) = true; rw [show x_kd 56 = 0 by decide +kernel, show MC 56 = 5 by decide +kernel, (x_isC (by decide) w6.1 sh393)]; rfl) s9 ?_
    refine e_if (pc' := 27) i52_24 rfl (fun c11 => ?_) (fun c11 => ?_)
    · have d12 : r10 = 0 := (of_decide_eq_true c11)
      replace H := H.1 d12
      refine e_ld (pc' := 30) i52_29 rfl rfl ?_
      refine e_ld (pc' := 32) i52_30 rfl rfl ?_
      refine e_un (pc' := 33) i52_32 rfl rfl ?_
      refine e_put (h' := sL h3 393 3 u.toInt64) (pc' := 36) i52_33 rfl (x_isC (by decide) w6.1 sh393) rfl ?_
      have w15 : HW (sL h3 393 3 u.toInt64) := HW_sL w6
      refine e_cn (pc' := 37) i52_36 rfl ?_
      refine e_st (ls' := [some (.ref 393), some (.ref 2), some (.int y), some (.int z), some (.int u), some (.int r2), some (.int 0)]) (pc' := 39) i52_37 rfl rfl rfl ?_
      exact H
    · have d14 : ¬ (r10 = 0) := (of_decide_eq_false c11)
      replace H := H.2 d14
      refine e_cn (pc' := 28) i52_27 rfl ?_
      refine e_rt i52_28 rfl ?_
      exact H
set_option maxHeartbeats 8000000 in
set_option maxRecDepth 100000 in
theorem v52_39 {L : Nat} {xs : Nat → Int32} {Q : Option Value → Hp → Prop} {h : Hp} {l2 : Int32} {l3 : Int32} {l4 : Int32} {l5 : Int32} {l6 : Int32} (hw : HW h) 
  (H : (((gI h 2 1) ≤ l6) → (∃ (h3 : Hp), Sp L xs 198 [.ref 395, .long 0] h none h3 ∧ ∃ (h6 : Hp), Sp L xs 199 [.ref 394, .int 0] h3 none h6 ∧ (¬ l4.toInt64 = 0) ∧ ∃ k10 : Nat, l2 = nI k10 ∧ k10 < 21 ∧ ∃ k14 : Nat, l5 = nI k14 ∧ k14 < 8 ∧ ∃ (r19 : Int32) (h17 : Hp), Sp L xs 57 [.ref 393, .ref 2, .int ((gI h6 396 k14) ||| (1 <<< ((l5 : Int32) &&& 31)))] (sL h6 395 k10 (((gL h6 393 3) / l4.toInt64) * l3.toInt64)) (some (.int r19)) h17 ∧ Q (some (.int r19)) h17)) ∧ (¬ ((gI h 2 1) ≤ l6) → (∃ k22 : Nat, l6 = nI k22 ∧ k22 < 8 ∧ (gR h 3 k22 = none → (False)) ∧ (∀ q26 : Nat, gR h 3 k22 = some q26 → ((RQ q26 h.1) ∧ WP L xs 52 39 [some (.ref 393), some (.ref 2), some (.int l2), some (.int l3), some (.int l4), some (.int l5), some (.int (l6 + 1))] [] (sL h 393 3 ((gL h 393 3) * ((gI h q26 1).toInt64))) Q))))) : WP L xs 52 39 [some (.ref 393), some (.ref 2), some (.int l2), some (.int l3), some (.int l4), some (.int l5), some (.int l6)] [] h Q := by
  refine e_ld (pc' := 41) i52_39 rfl rfl ?_
  refine e_ld (pc' := 42) i52_41 rfl rfl ?_
  refine e_get (w := .int (gI h 2 1)) (pc' := 45) i52_42 rfl (x_isC (by decide) hw.1 sh2) rfl ?_
  refine e_ic (pc' := 48) i52_45 rfl (fun c1 => ?_) (fun c1 => ?_)
  · have d2 : (gI h 2 1) ≤ l6 := (of_decide_eq_true c1)
    replace H := H.1 d2
    refine e_ld (pc' := 75) i52_74 rfl rfl ?_
    refine e_get (w := .ref 395) (pc' := 78) i52_75 rfl (x_isC (by decide) hw.1 sh393) (x_fvR (by decide +kernel) (hw.2 393 1 395 lk393_1)) ?_
    refine e_cn (pc' := 79) i52_78 rfl ?_
    obtain ⟨h3, s4, H⟩ := H
    have w6q := HW_sp (show x_okm 198 = true by rfl) s4 hw
    have w6 : HW h3 := w6q.1
    refine e_cV (As := [.ref 395, .long 0]) (rest := []) (pc' := 82) i52_79 rfl rfl rfl rfl rfl s4 ?_
    refine e_ld (pc' := 83) i52_82 rfl rfl ?_
    refine e_get (w := .ref 394) (pc' := 86) i52_83 rfl (x_isC (by decide) w6.1 sh393) (x_fvR (by decide +kernel) (w6.2 393 0 394 lk393_0)) ?_
    refine e_cn (pc' := 87) i52_86 rfl ?_
    obtain ⟨h6, s7, H⟩ := H
    have w10q := HW_sp (show x_okm 199 = true by rfl) s7 w6
    have w10 : HW h6 := w10q.1
    refine e_cV (As := [.ref 394, .int 0]) (rest := []) (pc' := 90) i52_87 rfl rfl rfl rfl rfl s7 ?_
    refine e_ld (pc' := 91) i52_90 rfl rfl ?_
    refine e_get (w := .ref 395) (pc' := 94) i52_91 rfl (x_isC (by decide) w10.1 sh393) (x_fvR (by decide +kernel) (w10.2 393 1 395 lk393_1)) ?_
    refine e_ld (pc' := 95) i52_94 rfl rfl ?_
    refine e_ld (pc' := 96) i52_95 rfl rfl ?_
    refine e_get (w := .long (gL h6 393 3)) (pc' := 99) i52_96 rfl (x_isC (by decide) w10.1 sh393) rfl ?_
    refine e_ld (pc' := 101) i52_99 rfl rfl ?_
    refine e_un (pc' := 102) i52_101 rfl rfl ?_
    obtain ⟨g9, H⟩ := H
    refine e_lb (z := (gL h6 393 3) / l4.toInt64) (pc' := 103) i52_102 rfl (x_lb_div g9) ?_
    refine e_ld (pc' := 104) i52_103 rfl rfl ?_
    refine e_un (pc' := 105) i52_104 rfl rfl ?_
    refine e_lb (z := ((gL h6 393 3) / l4.toInt64) * l3.toInt64) (pc' := 106) i52_105 rfl rfl ?_
    obtain ⟨k10, e11, g12, H⟩ := H
    refine e_as (n := k10) (h' := sL h6 395 k10 (((gL h6 393 3) / l4.toInt64) * l3.toInt64)) (pc' := 107) i52_106 rfl (x_alE (a := 21) (by decide) w10.1 sh395 (by decide) e11 g12 (by decide)) (x_clE e11 g12 (by decide)) (by rw [(show (SH 395).1 = 21 by rw [sh395])]; rfl) ?_
    have w16 : HW (sL h6 395 k10 (((gL h6 393 3) / l4.toInt64) * l3.toInt64)) := HW_sL w10
    refine e_ld (pc' := 108) i52_107 rfl rfl ?_
    refine e_ld (pc' := 109) i52_108 rfl rfl ?_
    refine e_ld (pc' := 110) i52_109 rfl rfl ?_
    refine e_get (w := .ref 396) (pc' := 113) i52_110 rfl (x_isC (by decide) w16.1 sh393) (x_fvR (by decide +kernel) (w16.2 393 2 396 lk393_2)) ?_
    refine e_ld (pc' := 115) i52_113 rfl rfl ?_
    obtain ⟨k14, e15, g16, H⟩ := H
    refine e_al (n := k14) (w := .int (gI h6 396 k14)) (pc' := 116) i52_115 rfl (x_alE (a := 20) (by decide) w16.1 sh396 (by decide) e15 g16 (by decide)) (x_clE e15 g16 (by decide)) (congrArg Value.int gI_psL) ?_
    refine e_cn (pc' := 117) i52_116 rfl ?_
    refine e_ld (pc' := 119) i52_117 rfl rfl ?_
    refine e_ib (z := 1 <<< ((l5 : Int32) &&& 31)) (pc' := 120) i52_119 rfl rfl ?_
    refine e_ib (z := (gI h6 396 k14) ||| (1 <<< ((l5 : Int32) &&& 31))) (pc' := 121) i52_120 rfl rfl ?_
    obtain ⟨r19, h17, s18, H⟩ := H
    have w24q := HW_sp (show x_okm 57 = true by rfl) s18 w16
    have w24 : HW h17 := w24q.1
    refine e_cI (w := .int r19) (As := [.ref 393, .ref 2, .int ((gI h6 396 k14) ||| (1 <<< ((l5 : Int32) &&& 31)))]) (rest := []) (pc' := 124) i52_121 rfl rfl rfl rfl (by show (Nat.beq (x_kd 57) 0 && x_is 393 _ (MC 57) 0) = true; rw [show x_kd 57 = 0 by decide +kernel, show MC 57 = 5 by decide +kernel, (x_isC (by decide) w16.1 sh393)]; rfl) s18 ?_
    refine e_rt i52_124 rfl ?_
    exact H
  · have d21 : ¬ ((gI h 2 1) ≤ l6) := (of_decide_eq_false c1)
    replace H := H.2 d21
    refine e_ld (pc' := 49) i52_48 rfl rfl ?_
    refine e_stk (pc' := 50) i52_49 rfl rfl ?_
    refine e_get (w := .long (gL h 393 3)) (pc' := 53) i52_50 rfl (x_isC (by decide) hw.1 sh393) rfl ?_
    refine e_ld (pc' := 54) i52_53 rfl rfl ?_
    refine e_get (w := .ref 3) (pc' := 57) i52_54 rfl (x_isC (by decide) hw.1 sh2) (x_fvR (by decide +kernel) (hw.2 2 0 3 lk2_0)) ?_
    refine e_ld (pc' := 59) i52_57 rfl rfl ?_
    obtain ⟨k22, e23, g24, H⟩ := H
    cases hr25 : gR h 3 k22 with
    | none =>
      replace H := H.1 hr25
      refine e_al (n := k22) (w := .null) (pc' := 60) i52_59 rfl (x_alE (a := 23) (by decide) hw.1 sh3 (by decide) e23 g24 (by decide)) (x_clE e23 g24 (by decide)) (x_agN hr25) ?_
      exact H.elim
    | some q26 =>
      replace H := H.2 _ hr25
      refine e_al (n := k22) (w := .ref q26) (pc' := 60) i52_59 rfl (x_alE (a := 23) (by decide) hw.1 sh3 (by decide) e23 g24 (by decide)) (x_clE e23 g24 (by decide)) (x_agR hr25) ?_
      obtain ⟨g27, H⟩ := H
      refine e_get (w := .int (gI h q26 1)) (pc' := 63) i52_60 rfl (x_isV g27.1 g27.2) rfl ?_
      refine e_un (pc' := 64) i52_63 rfl rfl ?_
      refine e_lb (z := (gL h 393 3) * ((gI h q26 1).toInt64)) (pc' := 65) i52_64 rfl rfl ?_
      refine e_put (h' := sL h 393 3 ((gL h 393 3) * ((gI h q26 1).toInt64))) (pc' := 68) i52_65 rfl (x_isC (by decide) hw.1 sh393) rfl ?_
      have w29 : HW (sL h 393 3 ((gL h 393 3) * ((gI h q26 1).toInt64))) := HW_sL hw
      refine e_inc (z := l6 + 1) (ls' := [some (.ref 393), some (.ref 2), some (.int l2), some (.int l3), some (.int l4), some (.int l5), some (.int (l6 + 1))]) (pc' := 71) i52_68 rfl rfl rfl rfl ?_
      refine e_go i52_71 ?_
      exact H
-- FloorTurn$Planner.gatherNeeds(LFloorTurn$Book;)V
set_option maxHeartbeats 8000000 in
set_option maxRecDepth 100000 in
theorem v53 {L : Nat} {xs : Nat → Int32} {Q : Option Value → Hp → Prop} {h : Hp}  (hw : HW h) 
  (H : ∃ (h1 : Hp), Sp L xs 199 [.ref 396, .int 0] h none h1 ∧ WP L xs 53 10 [some (.ref 393), some (.ref 2), some (.int 0), none] [] h1 Q) : ∃ r h', Sp L xs 53 [.ref 393, .ref 2] h r h' ∧ Q r h' := by
  refine sp_ex (ls := [some (.ref 393), some (.ref 2), none, none]) rfl ?_
  refine e_ld (pc' := 1) i53_0 rfl rfl ?_
  refine e_get (w := .ref 396) (pc' := 4) i53_1 rfl (x_isC (by decide) hw.1 sh393) (x_fvR (by decide +kernel) (hw.2 393 2 396 lk393_2)) ?_
  refine e_cn (pc' := 5) i53_4 rfl ?_
  obtain ⟨h1, s2, H⟩ := H
  have w4q := HW_sp (show x_okm 199 = true by rfl) s2 hw
  have w4 : HW h1 := w4q.1
  refine e_cV (As := [.ref 396, .int 0]) (rest := []) (pc' := 8) i53_5 rfl rfl rfl rfl rfl s2 ?_
  refine e_cn (pc' := 9) i53_8 rfl ?_
  refine e_st (ls' := [some (.ref 393), some (.ref 2), some (.int 0), none]) (pc' := 10) i53_9 rfl rfl rfl ?_
  exact H
set_option maxHeartbeats 8000000 in
set_option maxRecDepth 100000 in
theorem v53_10 {L : Nat} {xs : Nat → Int32} {Q : Option Value → Hp → Prop} {h : Hp} {l2 : Int32} {z3 : Option Value} (hw : HW h) 
  (H : (((gI h 2 1) ≤ l2) → (WP L xs 53 67 [some (.ref 393), some (.ref 2), some (.int 0), z3] [] h Q)) ∧ (¬ ((gI h 2 1) ≤ l2) → (∃ k4 : Nat, l2 = nI k4 ∧ k4 < 8 ∧ (gR h 3 k4 = none → (False)) ∧ (∀ q8 : Nat, gR h 3 k4 = some q8 → ((RQ q8 h.1) ∧ ∃ (r11 : Int32), Sp L xs 3 [.ref 2, .int (gI h q8 4)] h (some (.int r11)) h ∧ (gR h 3 k4 = none → (False)) ∧ (∀ q13 : Nat, gR h 3 k4 = some q13 → ((RQ q13 h.1) ∧ ∃ (r16 : Int32), Sp L xs 3 [.ref 2, .int (gI h q13 6)] h (some (.int r16)) h ∧ WP L xs 53 10 [some (.ref 393), some (.ref 2), some (.int (l2 + 1)), z3] [] (sI h 396 k4 ((btO r11) ||| (btO r16))) Q))))))) : WP L xs 53 10 [some (.ref 393), some (.ref 2), some (.int l2), z3] [] h Q := by
  refine e_ld (pc' := 11) i53_10 rfl rfl ?_
  refine e_ld (pc' := 12) i53_11 rfl rfl ?_
  refine e_get (w := .int (gI h 2 1)) (pc' := 15) i53_12 rfl (x_isC (by decide) hw.1 sh2) rfl ?_
  refine e_ic (pc' := 18) i53_15 rfl (fun c1 => ?_) (fun c1 => ?_)
  · have d2 : (gI h 2 1) ≤ l2 := (of_decide_eq_true c1)
    replace H := H.1 d2
    refine e_cn (pc' := 66) i53_65 rfl ?_
    refine e_st (ls' := [some (.ref 393), some (.ref 2), some (.int 0), z3]) (pc' := 67) i53_66 rfl rfl rfl ?_
    exact H
  · have d3 : ¬ ((gI h 2 1) ≤ l2) := (of_decide_eq_false c1)
    replace H := H.2 d3
    refine e_ld (pc' := 19) i53_18 rfl rfl ?_
    refine e_get (w := .ref 396) (pc' := 22) i53_19 rfl (x_isC (by decide) hw.1 sh393) (x_fvR (by decide +kernel) (hw.2 393 2 396 lk393_2)) ?_
    refine e_ld (pc' := 23) i53_22 rfl rfl ?_
    refine e_ld (pc' := 24) i53_23 rfl rfl ?_
    refine e_ld (pc' := 25) i53_24 rfl rfl ?_
    refine e_ld (pc' := 26) i53_25 rfl rfl ?_
    refine e_get (w := .ref 3) (pc' := 29) i53_26 rfl (x_isC (by decide) hw.1 sh2) (x_fvR (by decide +kernel) (hw.2 2 0 3 lk2_0)) ?_
    refine e_ld (pc' := 30) i53_29 rfl rfl ?_
    obtain ⟨k4, e5, g6, H⟩ := H
    cases hr7 : gR h 3 k4 with
    | none =>
      replace H := H.1 hr7
      refine e_al (n := k4) (w := .null) (pc' := 31) i53_30 rfl (x_alE (a := 23) (by decide) hw.1 sh3 (by decide) e5 g6 (by decide)) (x_clE e5 g6 (by decide)) (x_agN hr7) ?_
      exact H.elim
    | some q8 =>
      replace H := H.2 _ hr7
      refine e_al (n := k4) (w := .ref q8) (pc' := 31) i53_30 rfl (x_alE (a := 23) (by decide) hw.1 sh3 (by decide) e5 g6 (by decide)) (x_clE e5 g6 (by decide)) (x_agR hr7) ?_
      obtain ⟨g9, H⟩ := H
      refine e_get (w := .int (gI h q8 4)) (pc' := 34) i53_31 rfl (x_isV g9.1 g9.2) rfl ?_
      obtain ⟨r11, s10, H⟩ := H
      refine e_cI (w := .int r11) (As := [.ref 2, .int (gI h q8 4)]) (rest := [.ref 393, .int l2, .ref 396]) (pc' := 37) i53_34 rfl rfl rfl rfl (by show (Nat.beq (x_kd 3) 0 && x_is 2 _ (MC 3) 0) = true; rw [show x_kd 3 = 0 by decide +kernel, show MC 3 = 0 by decide +kernel, (x_isC (by decide) hw.1 sh2)]; rfl) s10 ?_
      refine e_cI (w := .int (btO r11)) (As := [.ref 393, .int r11]) (rest := [.int l2, .ref 396]) (pc' := 40) i53_37 rfl rfl rfl rfl (by show (Nat.beq (x_kd 54) 0 && x_is 393 _ (MC 54) 0) = true; rw [show x_kd 54 = 0 by decide +kernel, show MC 54 = 5 by decide +kernel, (x_isC (by decide) hw.1 sh393)]; rfl) m54 ?_
      refine e_ld (pc' := 41) i53_40 rfl rfl ?_
      refine e_ld (pc' := 42) i53_41 rfl rfl ?_
      refine e_ld (pc' := 43) i53_42 rfl rfl ?_
      refine e_get (w := .ref 3) (pc' := 46) i53_43 rfl (x_isC (by decide) hw.1 sh2) (x_fvR (by decide +kernel) (hw.2 2 0 3 lk2_0)) ?_
      refine e_ld (pc' := 47) i53_46 rfl rfl ?_
      cases hr12 : gR h 3 k4 with
      | none =>
        replace H := H.1 hr12
        refine e_al (n := k4) (w := .null) (pc' := 48) i53_47 rfl (x_alE (a := 23) (by decide) hw.1 sh3 (by decide) e5 g6 (by decide)) (x_clE e5 g6 (by decide)) (x_agN hr12) ?_
        exact H.elim
      | some q13 =>
        replace H := H.2 _ hr12
        refine e_al (n := k4) (w := .ref q13) (pc' := 48) i53_47 rfl (x_alE (a := 23) (by decide) hw.1 sh3 (by decide) e5 g6 (by decide)) (x_clE e5 g6 (by decide)) (x_agR hr12) ?_
        obtain ⟨g14, H⟩ := H
        refine e_get (w := .int (gI h q13 6)) (pc' := 51) i53_48 rfl (x_isV g14.1 g14.2) rfl ?_
        obtain ⟨r16, s15, H⟩ := H
        refine e_cI (w := .int r16) (As := [.ref 2, .int (gI h q13 6)]) (rest := [.ref 393, .int (btO r11), .int l2, .ref 396]) (pc' := 54) i53_51 rfl rfl rfl rfl (by show (Nat.beq (x_kd 3) 0 && x_is 2 _ (MC 3) 0) = true; rw [show x_kd 3 = 0 by decide +kernel, show MC 3 = 0 by decide +kernel, (x_isC (by decide) hw.1 sh2)]; rfl) s15 ?_
        refine e_cI (w := .int (btO r16)) (As := [.ref 393, .int r16]) (rest := [.int (btO r11), .int l2, .ref 396]) (pc' := 57) i53_54 rfl rfl rfl rfl (by show (Nat.beq (x_kd 54) 0 && x_is 393 _ (MC 54) 0) = true; rw [show x_kd 54 = 0 by decide +kernel, show MC 54 = 5 by decide +kernel, (x_isC (by decide) hw.1 sh393)]; rfl) m54 ?_
        refine e_ib (z := (btO r11) ||| (btO r16)) (pc' := 58) i53_57 rfl rfl ?_
        refine e_as (n := k4) (h' := sI h 396 k4 ((btO r11) ||| (btO r16))) (pc' := 59) i53_58 rfl (x_alE (a := 20) (by decide) hw.1 sh396 (by decide) e5 g6 (by decide)) (x_clE e5 g6 (by decide)) (by rw [(show (SH 396).1 = 20 by rw [sh396])]; rfl) ?_
        have w18 : HW (sI h 396 k4 ((btO r11) ||| (btO r16))) := HW_sI hw
        refine e_inc (z := l2 + 1) (ls' := [some (.ref 393), some (.ref 2), some (.int (l2 + 1)), z3]) (pc' := 62) i53_59 rfl rfl rfl rfl ?_
        refine e_go i53_62 ?_
        exact H
set_option maxHeartbeats 8000000 in
set_option maxRecDepth 100000 in
theorem v53_67 {L : Nat} {xs : Nat → Int32} {Q : Option Value → Hp → Prop} {h : Hp} {l2 : Int32} {z3 : Option Value} (hw : HW h) 
  (H : (((gI h 2 1) ≤ l2) → (Q none h)) ∧ (¬ ((gI h 2 1) ≤ l2) → (WP L xs 53 77 [some (.ref 393), some (.ref 2), some (.int l2), some (.int 0)] [] h Q))) : WP L xs 53 67 [some (.ref 393), some (.ref 2), some (.int l2), z3] [] h Q := by
  refine e_ld (pc' := 68) i53_67 rfl rfl ?_
  refine e_ld (pc' := 69) i53_68 rfl rfl ?_
  refine e_get (w := .int (gI h 2 1)) (pc' := 72) i53_69 rfl (x_isC (by decide) hw.1 sh2) rfl ?_
  refine e_ic (pc' := 75) i53_72 rfl (fun c1 => ?_) (fun c1 => ?_)
  · have d2 : (gI h 2 1) ≤ l2 := (of_decide_eq_true c1)
    replace H := H.1 d2
    refine e_rt i53_126 rfl ?_
    exact H
  · have d3 : ¬ ((gI h 2 1) ≤ l2) := (of_decide_eq_false c1)
    replace H := H.2 d3
    refine e_cn (pc' := 76) i53_75 rfl ?_
    refine e_st (ls' := [some (.ref 393), some (.ref 2), some (.int l2), some (.int 0)]) (pc' := 77) i53_76 rfl rfl rfl ?_
    exact H
set_option maxHeartbeats 8000000 in
set_option maxRecDepth 100000 in
theorem v53_77 {L : Nat} {xs : Nat → Int32} {Q : Option Value → Hp → Prop} {h : Hp} {l2 : Int32} {l3 : Int32} (hw : HW h) 
  (H : (((gI h 2 1) ≤ l3) → (WP L xs 53 67 [some (.ref 393), some (.ref 2), some (.int (l2 + 1)), some (.int l3)] [] h Q)) ∧ (¬ ((gI h 2 1) ≤ l3) → (∃ k4 : Nat, l3 = nI k4 ∧ k4 < 8 ∧ (((hsB (gI h 396 k4) l2) = true) → (∃ k10 : Nat, l2 = nI k10 ∧ k10 < 8 ∧ WP L xs 53 77 [some (.ref 393), some (.ref 2), some (.int l2), some (.int (l3 + 1))] [] (sI h 396 k4 ((gI h 396 k4) ||| (gI h 396 k10))) Q)) ∧ (¬ ((hsB (gI h 396 k4) l2) = true) → (WP L xs 53 77 [some (.ref 393), some (.ref 2), some (.int l2), some (.int (l3 + 1))] [] h Q))))) : WP L xs 53 77 [some (.ref 393), some (.ref 2), some (.int l2), some (.int l3)] [] h Q := by
  refine e_ld (pc' := 78) i53_77 rfl rfl ?_
  refine e_ld (pc' := 79) i53_78 rfl rfl ?_
  refine e_get (w := .int (gI h 2 1)) (pc' := 82) i53_79 rfl (x_isC (by decide) hw.1 sh2) rfl ?_
  refine e_ic (pc' := 85) i53_82 rfl (fun c1 => ?_) (fun c1 => ?_)
  · have d2 : (gI h 2 1) ≤ l3 := (of_decide_eq_true c1)
    replace H := H.1 d2
    refine e_inc (z := l2 + 1) (ls' := [some (.ref 393), some (.ref 2), some (.int (l2 + 1)), some (.int l3)]) (pc' := 123) i53_120 rfl rfl rfl rfl ?_
    refine e_go i53_123 ?_
    exact H
  · have d3 : ¬ ((gI h 2 1) ≤ l3) := (of_decide_eq_false c1)
    replace H := H.2 d3
    refine e_ld (pc' := 86) i53_85 rfl rfl ?_
    refine e_ld (pc' := 87) i53_86 rfl rfl ?_
    refine e_get (w := .ref 396) (pc' := 90) i53_87 rfl (x_isC (by decide) hw.1 sh393) (x_fvR (by decide +kernel) (hw.2 393 2 396 lk393_2)) ?_
    refine e_ld (pc' := 91) i53_90 rfl rfl ?_
    obtain ⟨k4, e5, g6, H⟩ := H
    refine e_al (n := k4) (w := .int (gI h 396 k4)) (pc' := 92) i53_91 rfl (x_alE (a := 20) (by decide) hw.1 sh396 (by decide) e5 g6 (by decide)) (x_clE e5 g6 (by decide)) rfl ?_
    refine e_ld (pc' := 93) i53_92 rfl rfl ?_
    refine e_cI (w := .int (b2i (hsB (gI h 396 k4) l2))) (As := [.ref 393, .int (gI h 396 k4), .int l2]) (rest := []) (pc' := 96) i53_93 rfl rfl rfl rfl (by show (Nat.beq (x_kd 55) 0 && x_is 393 _ (MC 55) 0) = true; rw [show x_kd 55 = 0 by decide +kernel, show MC 55 = 5 by decide +kernel, (x_isC (by decide) hw.1 sh393)]; rfl) m55 ?_
    refine e_b0 (pc' := 99) i53_96 rfl (fun c7 => ?_) (fun c7 => ?_)
    · have d8 : ¬ ((hsB (gI h 396 k4) l2) = true) := (show ¬ (hsB (gI h 396 k4) l2) = true by rw [c7]; decide)
      replace H := H.2 d8
      refine e_inc (z := l3 + 1) (ls' := [some (.ref 393), some (.ref 2), some (.int l2), some (.int (l3 + 1))]) (pc' := 117) i53_114 rfl rfl rfl rfl ?_
      refine e_go i53_117 ?_
      exact H
    · have d9 : (hsB (gI h 396 k4) l2) = true := c7
      replace H := H.1 d9
      refine e_ld (pc' := 100) i53_99 rfl rfl ?_
      refine e_get (w := .ref 396) (pc' := 103) i53_100 rfl (x_isC (by decide) hw.1 sh393) (x_fvR (by decide +kernel) (hw.2 393 2 396 lk393_2)) ?_
      refine e_ld (pc' := 104) i53_103 rfl rfl ?_
      refine e_stk (pc' := 105) i53_104 rfl rfl ?_
      refine e_al (n := k4) (w := .int (gI h 396 k4)) (pc' := 106) i53_105 rfl (x_alE (a := 20) (by decide) hw.1 sh396 (by decide) e5 g6 (by decide)) (x_clE e5 g6 (by decide)) rfl ?_
      refine e_ld (pc' := 107) i53_106 rfl rfl ?_
      refine e_get (w := .ref 396) (pc' := 110) i53_107 rfl (x_isC (by decide) hw.1 sh393) (x_fvR (by decide +kernel) (hw.2 393 2 396 lk393_2)) ?_
      refine e_ld (pc' := 111) i53_110 rfl rfl ?_
      obtain ⟨k10, e11, g12, H⟩ := H
      refine e_al (n := k10) (w := .int (gI h 396 k10)) (pc' := 112) i53_111 rfl (x_alE (a := 20) (by decide) hw.1 sh396 (by decide) e11 g12 (by decide)) (x_clE e11 g12 (by decide)) rfl ?_
      refine e_ib (z := (gI h 396 k4) ||| (gI h 396 k10)) (pc' := 113) i53_112 rfl rfl ?_
      refine e_as (n := k4) (h' := sI h 396 k4 ((gI h 396 k4) ||| (gI h 396 k10))) (pc' := 114) i53_113 rfl (x_alE (a := 20) (by decide) hw.1 sh396 (by decide) e5 g6 (by decide)) (x_clE e5 g6 (by decide)) (by rw [(show (SH 396).1 = 20 by rw [sh396])]; rfl) ?_
      have w14 : HW (sI h 396 k4 ((gI h 396 k4) ||| (gI h 396 k10))) := HW_sI hw
      refine e_inc (z := l3 + 1) (ls' := [some (.ref 393), some (.ref 2), some (.int l2), some (.int (l3 + 1))]) (pc' := 117) i53_114 rfl rfl rfl rfl ?_
      refine e_go i53_117 ?_
      exact H
-- FloorTurn$Planner.needsItself(I)Z
set_option maxHeartbeats 8000000 in
set_option maxRecDepth 100000 in
theorem v56 {L : Nat} {xs : Nat → Int32} {Q : Option Value → Hp → Prop} {h : Hp} {x : Int32} (hw : HW h) 
  (H : ∃ k1 : Nat, x = nI k1 ∧ k1 < 8 ∧ WP L xs 56 13 [some (.ref 393), some (.int x), some (.int ((gI h 396 k1) ||| (1 <<< ((x : Int32) &&& 31)))), some (.int 0)] [] h Q) : ∃ r h', Sp L xs 56 [.ref 393, .int x] h r h' ∧ Q r h' := by
  refine sp_ex (ls := [some (.ref 393), some (.int x), none, none]) rfl ?_
  refine e_ld (pc' := 1) i56_0 rfl rfl ?_
  refine e_get (w := .ref 396) (pc' := 4) i56_1 rfl (x_isC (by decide) hw.1 sh393) (x_fvR (by decide +kernel) (hw.2 393 2 396 lk393_2)) ?_
  refine e_ld (pc' := 5) i56_4 rfl rfl ?_
  obtain ⟨k1, e2, g3, H⟩ := H
  refine e_al (n := k1) (w := .int (gI h 396 k1)) (pc' := 6) i56_5 rfl (x_alE (a := 20) (by decide) hw.1 sh396 (by decide) e2 g3 (by decide)) (x_clE e2 g3 (by decide)) rfl ?_
  refine e_cn (pc' := 7) i56_6 rfl ?_
  refine e_ld (pc' := 8) i56_7 rfl rfl ?_
  refine e_ib (z := 1 <<< ((x : Int32) &&& 31)) (pc' := 9) i56_8 rfl rfl ?_
  refine e_ib (z := (gI h 396 k1) ||| (1 <<< ((x : Int32) &&& 31))) (pc' := 10) i56_9 rfl rfl ?_
  refine e_st (ls' := [some (.ref 393), some (.int x), some (.int ((gI h 396 k1) ||| (1 <<< ((x : Int32) &&& 31)))), none]) (pc' := 11) i56_10 rfl rfl rfl ?_
  refine e_cn (pc' := 12) i56_11 rfl ?_
  refine e_st (ls' := [some (.ref 393), some (.int x), some (.int ((gI h 396 k1) ||| (1 <<< ((x : Int32) &&& 31)))), some (.int 0)]) (pc' := 13) i56_12 rfl rfl rfl ?_
  exact H
set_option maxHeartbeats 8000000 in
set_option maxRecDepth 100000 in
theorem v56_13 {L : Nat} {xs : Nat → Int32} {Q : Option Value → Hp → Prop} {h : Hp} {z1 : Option Value} {l2 : Int32} {l3 : Int32} (hw : HW h) 
  (H : ((8 ≤ l3) → (Q (some (.int 0)) h)) ∧ (¬ (8 ≤ l3) → ((((hsB l2 l3) = true) → (∃ k7 : Nat, l3 = nI k7 ∧ k7 < 8 ∧ (((hsB (gI h 396 k7) l3) = true) → (Q (some (.int 1)) h)) ∧ (¬ ((hsB (gI h 396 k7) l3) = true) → (WP L xs 56 13 [some (.ref 393), z1, some (.int l2), some (.int (l3 + 1))] [] h Q)))) ∧ (¬ ((hsB l2 l3) = true) → (WP L xs 56 13 [some (.ref 393), z1, some (.int l2), some (.int (l3 + 1))] [] h Q))))) : WP L xs 56 13 [some (.ref 393), z1, some (.int l2), some (.int l3)] [] h Q := by
  refine e_ld (pc' := 14) i56_13 rfl rfl ?_
  refine e_cn (pc' := 16) i56_14 rfl ?_
  refine e_ic (pc' := 19) i56_16 rfl (fun c1 => ?_) (fun c1 => ?_)
  · have d2 : 8 ≤ l3 := (of_decide_eq_true c1)
    replace H := H.1 d2
    refine e_cn (pc' := 51) i56_50 rfl ?_
    refine e_rt i56_51 rfl ?_
    exact H
  · have d3 : ¬ (8 ≤ l3) := (of_decide_eq_false c1)
    replace H := H.2 d3
    refine e_ld (pc' := 20) i56_19 rfl rfl ?_
    refine e_ld (pc' := 21) i56_20 rfl rfl ?_
    refine e_ld (pc' := 22) i56_21 rfl rfl ?_
    refine e_cI (w := .int (b2i (hsB l2 l3))) (As := [.ref 393, .int l2, .int l3]) (rest := []) (pc' := 25) i56_22 rfl rfl rfl rfl (by show (Nat.beq (x_kd 55) 0 && x_is 393 _ (MC 55) 0) = true; rw [show x_kd 55 = 0 by decide +kernel, show MC 55 = 5 by decide +kernel, (x_isC (by decide) hw.1 sh393)]; rfl) m55 ?_
    refine e_b0 (pc' := 28) i56_25 rfl (fun c4 => ?_) (fun c4 => ?_)
    · have d5 : ¬ ((hsB l2 l3) = true) := (show ¬ (hsB l2 l3) = true by rw [c4]; decide)
      replace H := H.2 d5
      refine e_inc (z := l3 + 1) (ls' := [some (.ref 393), z1, some (.int l2), some (.int (l3 + 1))]) (pc' := 47) i56_44 rfl rfl rfl rfl ?_
      refine e_go i56_47 ?_
      exact H
    · have d6 : (hsB l2 l3) = true := c4
      replace H := H.1 d6
      refine e_ld (pc' := 29) i56_28 rfl rfl ?_
      refine e_ld (pc' := 30) i56_29 rfl rfl ?_
      refine e_get (w := .ref 396) (pc' := 33) i56_30 rfl (x_isC (by decide) hw.1 sh393) (x_fvR (by decide +kernel) (hw.2 393 2 396 lk393_2)) ?_
      refine e_ld (pc' := 34) i56_33 rfl rfl ?_
      obtain ⟨k7, e8, g9, H⟩ := H
      refine e_al (n := k7) (w := .int (gI h 396 k7)) (pc' := 35) i56_34 rfl (x_alE (a := 20) (by decide) hw.1 sh396 (by decide) e8 g9 (by decide)) (x_clE e8 g9 (by decide)) rfl ?_
      refine e_ld (pc' := 36) i56_35 rfl rfl ?_
      refine e_cI (w := .int (b2i (hsB (gI h 396 k7) l3))) (As := [.ref 393, .int (gI h 396 k7), .int l3]) (rest := []) (pc' := 39) i56_36 rfl rfl rfl rfl (by show (Nat.beq (x_kd 55) 0 && x_is 393 _ (MC 55) 0) = true; rw [show x_kd 55 = 0 by decide +kernel, show MC 55 = 5 by decide +kernel, (x_isC (by decide) hw.1 sh393)]; rfl) m55 ?_
      refine e_b0 (pc' := 42) i56_39 rfl (fun c10 => ?_) (fun c10 => ?_)
      · have d11 : ¬ ((hsB (gI h 396 k7) l3) = true) := (show ¬ (hsB (gI h 396 k7) l3) = true by rw [c10]; decide)
        replace H := H.2 d11
        refine e_inc (z := l3 + 1) (ls' := [some (.ref 393), z1, some (.int l2), some (.int (l3 + 1))]) (pc' := 47) i56_44 rfl rfl rfl rfl ?_
        refine e_go i56_47 ?_
        exact H
      · have d12 : (hsB (gI h 396 k7) l3) = true := c10
        replace H := H.1 d12
        refine e_cn (pc' := 43) i56_42 rfl ?_
        refine e_rt i56_43 rfl ?_
        exact H
-- FloorTurn$Planner.spread(LFloorTurn$Book;I)I
set_option maxHeartbeats 8000000 in
set_option maxRecDepth 100000 in
theorem v57 {L : Nat} {xs : Nat → Int32} {Q : Option Value → Hp → Prop} {h : Hp} {y : Int32} (hw : HW h) 
  (H : WP L xs 57 8 [some (.ref 393), some (.ref 2), some (.int y), some (.int y), some (.int 0), some (.int 0), none, none] [] h Q) : ∃ r h', Sp L xs 57 [.ref 393, .ref 2, .int y] h r h' ∧ Q r h' := by
  refine sp_ex (ls := [some (.ref 393), some (.ref 2), some (.int y), none, none, none, none, none]) rfl ?_
  refine e_ld (pc' := 1) i57_0 rfl rfl ?_
  refine e_st (ls' := [some (.ref 393), some (.ref 2), some (.int y), some (.int y), none, none, none, none]) (pc' := 2) i57_1 rfl rfl rfl ?_
  refine e_cn (pc' := 3) i57_2 rfl ?_
  refine e_st (ls' := [some (.ref 393), some (.ref 2), some (.int y), some (.int y), some (.int 0), none, none, none]) (pc' := 5) i57_3 rfl rfl rfl ?_
  refine e_cn (pc' := 6) i57_5 rfl ?_
  refine e_st (ls' := [some (.ref 393), some (.ref 2), some (.int y), some (.int y), some (.int 0), some (.int 0), none, none]) (pc' := 8) i57_6 rfl rfl rfl ?_
  exact H
set_option maxHeartbeats 8000000 in
set_option maxRecDepth 100000 in
theorem v57_8 {L : Nat} {xs : Nat → Int32} {Q : Option Value → Hp → Prop} {h : Hp} {z2 : Option Value} {l3 : Int32} {l4 : Int32} {l5 : Int32} {z6 : Option Value} {z7 : Option Value} (hw : HW h)  (z2_z : x_wide (some z2) = false)
  (H : ((8 ≤ l5) → (Q (some (.int l4)) h)) ∧ (¬ (8 ≤ l5) → (∃ (r5 : Int32), Sp L xs 58 [.ref 393, .int l3] h (some (.int r5)) h ∧ ∃ (r7 : Option Nat), Sp L xs 2 [.ref 2, .int r5] h (some (x_rv r7)) h ∧ (r7 = none → (Q (some (.int l4)) h)) ∧ (∀ q8 : Nat, r7 = some q8 → (∃ (r11 : Int32) (h9 : Hp), Sp L xs 59 [.ref 393, .ref q8] h (some (.int r11)) h9 ∧ ∃ k13 : Nat, r5 = nI k13 ∧ k13 < 8 ∧ WP L xs 57 8 [some (.ref 393), some (.ref 2), z2, some (.int (l3 &&& ((1 <<< ((r5 : Int32) &&& 31)) ^^^ (-1)))), some (.int (l4 + (gI (sI h9 394 k13 r11) 394 k13))), some (.int (l5 + 1)), some (.int r5), some (.ref q8)] [] (sI h9 394 k13 r11) Q))))) : WP L xs 57 8 [some (.ref 393), some (.ref 2), z2, some (.int l3), some (.int l4), some (.int l5), z6, z7] [] h Q := by
  refine e_ld (pc' := 10) i57_8 rfl rfl ?_
  refine e_cn (pc' := 12) i57_10 rfl ?_
  refine e_ic (pc' := 15) i57_12 rfl (fun c1 => ?_) (fun c1 => ?_)
  · have d2 : 8 ≤ l5 := (of_decide_eq_true c1)
    replace H := H.1 d2
    refine e_ld (pc' := 80) i57_78 rfl rfl ?_
    refine e_rt i57_80 rfl ?_
    exact H
  · have d3 : ¬ (8 ≤ l5) := (of_decide_eq_false c1)
    replace H := H.2 d3
    refine e_ld (pc' := 16) i57_15 rfl rfl ?_
    refine e_ld (pc' := 17) i57_16 rfl rfl ?_
    obtain ⟨r5, s4, H⟩ := H
    refine e_cI (w := .int r5) (As := [.ref 393, .int l3]) (rest := []) (pc' := 20) i57_17 rfl rfl rfl rfl (by show (Nat.beq (x_kd 58) 0 && x_is 393 _ (MC 58) 0) = true; rw [show x_kd 58 = 0 by decide +kernel, show MC 58 = 5 by decide +kernel, (x_isC (by decide) hw.1 sh393)]; rfl) s4 ?_
    refine e_st (ls' := [some (.ref 393), some (.ref 2), z2, some (.int l3), some (.int l4), some (.int l5), some (.int r5), z7]) (pc' := 22) i57_20 rfl rfl rfl ?_
    refine e_ld (pc' := 23) i57_22 rfl rfl ?_
    refine e_ld (pc' := 25) i57_23 rfl rfl ?_
    obtain ⟨r7, s6, H⟩ := H
    cases r7 with
    | none =>
      replace H := H.1 rfl
      refine e_cI (w := .null) (As := [.ref 2, .int r5]) (rest := []) (pc' := 28) i57_25 rfl rfl rfl rfl (by show (Nat.beq (x_kd 2) 0 && x_is 2 _ (MC 2) 0) = true; rw [show x_kd 2 = 0 by decide +kernel, show MC 2 = 0 by decide +kernel, (x_isC (by decide) hw.1 sh2)]; rfl) s6 ?_
      refine e_st (ls' := [some (.ref 393), some (.ref 2), z2, some (.int l3), some (.int l4), some (.int l5), some (.int r5), some (.null)]) (pc' := 30) i57_28 rfl rfl rfl ?_
      refine e_ld (pc' := 32) i57_30 rfl rfl ?_
      refine e_nul (pc' := 35) i57_32 rfl ?_
      refine e_ld (pc' := 37) i57_35 rfl rfl ?_
      refine e_rt i57_37 rfl ?_
      exact H
    | some q8 =>
      replace H := H.2 _ rfl
      refine e_cI (w := .ref q8) (As := [.ref 2, .int r5]) (rest := []) (pc' := 28) i57_25 rfl rfl rfl rfl (by show (Nat.beq (x_kd 2) 0 && x_is 2 _ (MC 2) 0) = true; rw [show x_kd 2 = 0 by decide +kernel, show MC 2 = 0 by decide +kernel, (x_isC (by decide) hw.1 sh2)]; rfl) s6 ?_
      refine e_st (ls' := [some (.ref 393), some (.ref 2), z2, some (.int l3), some (.int l4), some (.int l5), some (.int r5), some (.ref q8)]) (pc' := 30) i57_28 rfl rfl rfl ?_
      refine e_ld (pc' := 32) i57_30 rfl rfl ?_
      refine e_nur (pc' := 38) i57_32 rfl ?_
      refine e_ld (pc' := 39) i57_38 rfl rfl ?_
      refine e_cn (pc' := 40) i57_39 rfl ?_
      refine e_ld (pc' := 42) i57_40 rfl rfl ?_
      refine e_ib (z := 1 <<< ((r5 : Int32) &&& 31)) (pc' := 43) i57_42 rfl rfl ?_
      refine e_cn (pc' := 44) i57_43 rfl ?_
      refine e_ib (z := (1 <<< ((r5 : Int32) &&& 31)) ^^^ (-1)) (pc' := 45) i57_44 rfl rfl ?_
      refine e_ib (z := l3 &&& ((1 <<< ((r5 : Int32) &&& 31)) ^^^ (-1))) (pc' := 46) i57_45 rfl rfl ?_
      refine e_st (ls' := [some (.ref 393), some (.ref 2), z2, some (.int (l3 &&& ((1 <<< ((r5 : Int32) &&& 31)) ^^^ (-1)))), some (.int l4), some (.int l5), some (.int r5), some (.ref q8)]) (pc' := 47) i57_46 rfl rfl ((x_stz (a := 2) rfl z2_z rfl).trans rfl) ?_
      refine e_ld (pc' := 48) i57_47 rfl rfl ?_
      refine e_get (w := .ref 394) (pc' := 51) i57_48 rfl (x_isC (by decide) hw.1 sh393) (x_fvR (by decide +kernel) (hw.2 393 0 394 lk393_0)) ?_
      refine e_ld (pc' := 53) i57_51 rfl rfl ?_
      refine e_ld (pc' := 54) i57_53 rfl rfl ?_
      refine e_ld (pc' := 56) i57_54 rfl rfl ?_
      obtain ⟨r11, h9, s10, H⟩ := H
      have w13q := HW_sp (show x_okm 59 = true by rfl) s10 hw
      have w13 : HW h9 := w13q.1
      refine e_cI (w := .int r11) (As := [.ref 393, .ref q8]) (rest := [.int r5, .ref 394]) (pc' := 59) i57_56 rfl rfl rfl rfl (by show (Nat.beq (x_kd 59) 0 && x_is 393 _ (MC 59) 0) = true; rw [show x_kd 59 = 0 by decide +kernel, show MC 59 = 5 by decide +kernel, (x_isC (by decide) hw.1 sh393)]; rfl) s10 ?_
      obtain ⟨k13, e14, g15, H⟩ := H
      refine e_as (n := k13) (h' := sI h9 394 k13 r11) (pc' := 60) i57_59 rfl (x_alE (a := 20) (by decide) w13.1 sh394 (by decide) e14 g15 (by decide)) (x_clE e14 g15 (by decide)) (by rw [(show (SH 394).1 = 20 by rw [sh394])]; rfl) ?_
      have w18 : HW (sI h9 394 k13 r11) := HW_sI w13
      refine e_ld (pc' := 62) i57_60 rfl rfl ?_
      refine e_ld (pc' := 63) i57_62 rfl rfl ?_
      refine e_get (w := .ref 394) (pc' := 66) i57_63 rfl (x_isC (by decide) w18.1 sh393) (x_fvR (by decide +kernel) (w18.2 393 0 394 lk393_0)) ?_
      refine e_ld (pc' := 68) i57_66 rfl rfl ?_
      refine e_al (n := k13) (w := .int (gI (sI h9 394 k13 r11) 394 k13)) (pc' := 69) i57_68 rfl (x_alE (a := 20) (by decide) w18.1 sh394 (by decide) e14 g15 (by decide)) (x_clE e14 g15 (by decide)) rfl ?_
      refine e_ib (z := l4 + (gI (sI h9 394 k13 r11) 394 k13)) (pc' := 70) i57_69 rfl rfl ?_
      refine e_st (ls' := [some (.ref 393), some (.ref 2), z2, some (.int (l3 &&& ((1 <<< ((r5 : Int32) &&& 31)) ^^^ (-1)))), some (.int (l4 + (gI (sI h9 394 k13 r11) 394 k13))), some (.int l5), some (.int r5), some (.ref q8)]) (pc' := 72) i57_70 rfl rfl rfl ?_
      refine e_inc (z := l5 + 1) (ls' := [some (.ref 393), some (.ref 2), z2, some (.int (l3 &&& ((1 <<< ((r5 : Int32) &&& 31)) ^^^ (-1)))), some (.int (l4 + (gI (sI h9 394 k13 r11) 394 k13))), some (.int (l5 + 1)), some (.int r5), some (.ref q8)]) (pc' := 75) i57_72 rfl rfl rfl rfl ?_
      refine e_go i57_75 ?_
      exact H
-- FloorTurn$Planner.unneeded(I)I
set_option maxHeartbeats 8000000 in
set_option maxRecDepth 100000 in
theorem v58 {L : Nat} {xs : Nat → Int32} {Q : Option Value → Hp → Prop} {h : Hp} {x : Int32} (hw : HW h) 
  (H : WP L xs 58 4 [some (.ref 393), some (.int x), some (.int 0), some (.int 0)] [] h Q) : ∃ r h', Sp L xs 58 [.ref 393, .int x] h r h' ∧ Q r h' := by
  refine sp_ex (ls := [some (.ref 393), some (.int x), none, none]) rfl ?_
  refine e_cn (pc' := 1) i58_0 rfl ?_
  refine e_st (ls' := [some (.ref 393), some (.int x), some (.int 0), none]) (pc' := 2) i58_1 rfl rfl rfl ?_
  refine e_cn (pc' := 3) i58_2 rfl ?_
  refine e_st (ls' := [some (.ref 393), some (.int x), some (.int 0), some (.int 0)]) (pc' := 4) i58_3 rfl rfl rfl ?_
  exact H
set_option maxHeartbeats 8000000 in
set_option maxRecDepth 100000 in
theorem v58_4 {L : Nat} {xs : Nat → Int32} {Q : Option Value → Hp → Prop} {h : Hp} {l1 : Int32} {l2 : Int32} {l3 : Int32} (hw : HW h) 
  (H : ((8 ≤ l3) → (WP L xs 58 36 [some (.ref 393), some (.int l1), some (.int l2), some (.int 0)] [] h Q)) ∧ (¬ (8 ≤ l3) → ((((hsB l1 l3) = true) → (∃ k7 : Nat, l3 = nI k7 ∧ k7 < 8 ∧ WP L xs 58 4 [some (.ref 393), some (.int l1), some (.int (l2 ||| (gI h 396 k7))), some (.int (l3 + 1))] [] h Q)) ∧ (¬ ((hsB l1 l3) = true) → (WP L xs 58 4 [some (.ref 393), some (.int l1), some (.int l2), some (.int (l3 + 1))] [] h Q))))) : WP L xs 58 4 [some (.ref 393), some (.int l1), some (.int l2), some (.int l3)] [] h Q := by
  refine e_ld (pc' := 5) i58_4 rfl rfl ?_
  refine e_cn (pc' := 7) i58_5 rfl ?_
  refine e_ic (pc' := 10) i58_7 rfl (fun c1 => ?_) (fun c1 => ?_)
  · have d2 : 8 ≤ l3 := (of_decide_eq_true c1)
    replace H := H.1 d2
    refine e_cn (pc' := 35) i58_34 rfl ?_
    refine e_st (ls' := [some (.ref 393), some (.int l1), some (.int l2), some (.int 0)]) (pc' := 36) i58_35 rfl rfl rfl ?_
    exact H
  · have d3 : ¬ (8 ≤ l3) := (of_decide_eq_false c1)
    replace H := H.2 d3
    refine e_ld (pc' := 11) i58_10 rfl rfl ?_
    refine e_ld (pc' := 12) i58_11 rfl rfl ?_
    refine e_ld (pc' := 13) i58_12 rfl rfl ?_
    refine e_cI (w := .int (b2i (hsB l1 l3))) (As := [.ref 393, .int l1, .int l3]) (rest := []) (pc' := 16) i58_13 rfl rfl rfl rfl (by show (Nat.beq (x_kd 55) 0 && x_is 393 _ (MC 55) 0) = true; rw [show x_kd 55 = 0 by decide +kernel, show MC 55 = 5 by decide +kernel, (x_isC (by decide) hw.1 sh393)]; rfl) m55 ?_
    refine e_b0 (pc' := 19) i58_16 rfl (fun c4 => ?_) (fun c4 => ?_)
    · have d5 : ¬ ((hsB l1 l3) = true) := (show ¬ (hsB l1 l3) = true by rw [c4]; decide)
      replace H := H.2 d5
      refine e_inc (z := l3 + 1) (ls' := [some (.ref 393), some (.int l1), some (.int l2), some (.int (l3 + 1))]) (pc' := 31) i58_28 rfl rfl rfl rfl ?_
      refine e_go i58_31 ?_
      exact H
    · have d6 : (hsB l1 l3) = true := c4
      replace H := H.1 d6
      refine e_ld (pc' := 20) i58_19 rfl rfl ?_
      refine e_ld (pc' := 21) i58_20 rfl rfl ?_
      refine e_get (w := .ref 396) (pc' := 24) i58_21 rfl (x_isC (by decide) hw.1 sh393) (x_fvR (by decide +kernel) (hw.2 393 2 396 lk393_2)) ?_
      refine e_ld (pc' := 25) i58_24 rfl rfl ?_
      obtain ⟨k7, e8, g9, H⟩ := H
      refine e_al (n := k7) (w := .int (gI h 396 k7)) (pc' := 26) i58_25 rfl (x_alE (a := 20) (by decide) hw.1 sh396 (by decide) e8 g9 (by decide)) (x_clE e8 g9 (by decide)) rfl ?_
      refine e_ib (z := l2 ||| (gI h 396 k7)) (pc' := 27) i58_26 rfl rfl ?_
      refine e_st (ls' := [some (.ref 393), some (.int l1), some (.int (l2 ||| (gI h 396 k7))), some (.int l3)]) (pc' := 28) i58_27 rfl rfl rfl ?_
      refine e_inc (z := l3 + 1) (ls' := [some (.ref 393), some (.int l1), some (.int (l2 ||| (gI h 396 k7))), some (.int (l3 + 1))]) (pc' := 31) i58_28 rfl rfl rfl rfl ?_
      refine e_go i58_31 ?_
      exact H
set_option maxHeartbeats 8000000 in
set_option maxRecDepth 100000 in
theorem v58_36 {L : Nat} {xs : Nat → Int32} {Q : Option Value → Hp → Prop} {h : Hp} {l1 : Int32} {l2 : Int32} {l3 : Int32} (hw : HW h) 
  (H : ((8 ≤ l3) → (Q (some (.int (-1))) h)) ∧ (¬ (8 ≤ l3) → ((((hsB l1 l3) = true) → ((((hsB l2 l3) = true) → (WP L xs 58 36 [some (.ref 393), some (.int l1), some (.int l2), some (.int (l3 + 1))] [] h Q)) ∧ (¬ ((hsB l2 l3) = true) → (Q (some (.int l3)) h)))) ∧ (¬ ((hsB l1 l3) = true) → (WP L xs 58 36 [some (.ref 393), some (.int l1), some (.int l2), some (.int (l3 + 1))] [] h Q))))) : WP L xs 58 36 [some (.ref 393), some (.int l1), some (.int l2), some (.int l3)] [] h Q := by
  refine e_ld (pc' := 37) i58_36 rfl rfl ?_
  refine e_cn (pc' := 39) i58_37 rfl ?_
  refine e_ic (pc' := 42) i58_39 rfl (fun c1 => ?_) (fun c1 => ?_)
  · have d2 : 8 ≤ l3 := (of_decide_eq_true c1)
    replace H := H.1 d2
    refine e_cn (pc' := 69) i58_68 rfl ?_
    refine e_rt i58_69 rfl ?_
    exact H
  · have d3 : ¬ (8 ≤ l3) := (of_decide_eq_false c1)
    replace H := H.2 d3
    refine e_ld (pc' := 43) i58_42 rfl rfl ?_
    refine e_ld (pc' := 44) i58_43 rfl rfl ?_
    refine e_ld (pc' := 45) i58_44 rfl rfl ?_
    refine e_cI (w := .int (b2i (hsB l1 l3))) (As := [.ref 393, .int l1, .int l3]) (rest := []) (pc' := 48) i58_45 rfl rfl rfl rfl (by show (Nat.beq (x_kd 55) 0 && x_is 393 _ (MC 55) 0) = true; rw [show x_kd 55 = 0 by decide +kernel, show MC 55 = 5 by decide +kernel, (x_isC (by decide) hw.1 sh393)]; rfl) m55 ?_
    refine e_b0 (pc' := 51) i58_48 rfl (fun c4 => ?_) (fun c4 => ?_)
    · have d5 : ¬ ((hsB l1 l3) = true) := (show ¬ (hsB l1 l3) = true by rw [c4]; decide)
      replace H := H.2 d5
      refine e_inc (z := l3 + 1) (ls' := [some (.ref 393), some (.int l1), some (.int l2), some (.int (l3 + 1))]) (pc' := 65) i58_62 rfl rfl rfl rfl ?_
      refine e_go i58_65 ?_
      exact H
    · have d6 : (hsB l1 l3) = true := c4
      replace H := H.1 d6
      refine e_ld (pc' := 52) i58_51 rfl rfl ?_
      refine e_ld (pc' := 53) i58_52 rfl rfl ?_
      refine e_ld (pc' := 54) i58_53 rfl rfl ?_
      refine e_cI (w := .int (b2i (hsB l2 l3))) (As := [.ref 393, .int l2, .int l3]) (rest := []) (pc' := 57) i58_54 rfl rfl rfl rfl (by show (Nat.beq (x_kd 55) 0 && x_is 393 _ (MC 55) 0) = true; rw [show x_kd 55 = 0 by decide +kernel, show MC 55 = 5 by decide +kernel, (x_isC (by decide) hw.1 sh393)]; rfl) m55 ?_
      refine e_b1 (pc' := 60) i58_57 rfl (fun c7 => ?_) (fun c7 => ?_)
      · have d8 : (hsB l2 l3) = true := c7
        replace H := H.1 d8
        refine e_inc (z := l3 + 1) (ls' := [some (.ref 393), some (.int l1), some (.int l2), some (.int (l3 + 1))]) (pc' := 65) i58_62 rfl rfl rfl rfl ?_
        refine e_go i58_65 ?_
        exact H
      · have d9 : ¬ ((hsB l2 l3) = true) := (show ¬ (hsB l2 l3) = true by rw [c7]; decide)
        replace H := H.2 d9
        refine e_ld (pc' := 61) i58_60 rfl rfl ?_
        refine e_rt i58_61 rfl ?_
        exact H
-- FloorTurn$Planner.run(LFloorTurn$Recipe;)I
set_option maxHeartbeats 8000000 in
set_option maxRecDepth 100000 in
theorem v59 {L : Nat} {xs : Nat → Int32} {Q : Option Value → Hp → Prop} {h : Hp} {q : Nat} (hw : HW h) (hq : RQ q h.1)
  (H : ∃ k1 : Nat, (gI h q 0) = nI k1 ∧ k1 < 21 ∧ (¬ ((gI h q 1).toInt64) = 0) ∧ ∃ k5 : Nat, (gI h q 4) = nI k5 ∧ k5 < 21 ∧ ∃ k9 : Nat, (gI h q 6) = nI k9 ∧ k9 < 21 ∧ (¬ (gL h 393 3) = 0) ∧ Q (some (.int (((((((gL h 395 k1) / ((gI h q 1).toInt64)) * ((gI h q 2).toInt64)) + (gL h 393 3)) - 1) / (gL h 393 3)).toInt32))) (sL (sL h 395 k5 ((gL h 395 k5) + (((gL h 395 k1) / ((gI h q 1).toInt64)) * ((gI h q 5).toInt64)))) 395 k9 ((gL (sL h 395 k5 ((gL h 395 k5) + (((gL h 395 k1) / ((gI h q 1).toInt64)) * ((gI h q 5).toInt64)))) 395 k9) + (((gL h 395 k1) / ((gI h q 1).toInt64)) * ((gI h q 7).toInt64))))) : ∃ r h', Sp L xs 59 [.ref 393, .ref q] h r h' ∧ Q r h' := by
  refine sp_ex (ls := [some (.ref 393), some (.ref q), none, none]) rfl ?_
  refine e_ld (pc' := 1) i59_0 rfl rfl ?_
  refine e_get (w := .ref 395) (pc' := 4) i59_1 rfl (x_isC (by decide) hw.1 sh393) (x_fvR (by decide +kernel) (hw.2 393 1 395 lk393_1)) ?_
  refine e_ld (pc' := 5) i59_4 rfl rfl ?_
  refine e_get (w := .int (gI h q 0)) (pc' := 8) i59_5 rfl (x_isV hq.1 hq.2) rfl ?_
  obtain ⟨k1, e2, g3, H⟩ := H
  refine e_al (n := k1) (w := .long (gL h 395 k1)) (pc' := 9) i59_8 rfl (x_alE (a := 21) (by decide) hw.1 sh395 (by decide) e2 g3 (by decide)) (x_clE e2 g3 (by decide)) rfl ?_
  refine e_ld (pc' := 10) i59_9 rfl rfl ?_
  refine e_get (w := .int (gI h q 1)) (pc' := 13) i59_10 rfl (x_isV hq.1 hq.2) rfl ?_
  refine e_un (pc' := 14) i59_13 rfl rfl ?_
  obtain ⟨g4, H⟩ := H
  refine e_lb (z := (gL h 395 k1) / ((gI h q 1).toInt64)) (pc' := 15) i59_14 rfl (x_lb_div g4) ?_
  refine e_st (ls' := [some (.ref 393), some (.ref q), some (.long ((gL h 395 k1) / ((gI h q 1).toInt64))), none]) (pc' := 16) i59_15 rfl rfl rfl ?_
  refine e_ld (pc' := 17) i59_16 rfl rfl ?_
  refine e_get (w := .ref 395) (pc' := 20) i59_17 rfl (x_isC (by decide) hw.1 sh393) (x_fvR (by decide +kernel) (hw.2 393 1 395 lk393_1)) ?_
  refine e_ld (pc' := 21) i59_20 rfl rfl ?_
  refine e_get (w := .int (gI h q 4)) (pc' := 24) i59_21 rfl (x_isV hq.1 hq.2) rfl ?_
  refine e_stk (pc' := 25) i59_24 rfl rfl ?_
  obtain ⟨k5, e6, g7, H⟩ := H
  refine e_al (n := k5) (w := .long (gL h 395 k5)) (pc' := 26) i59_25 rfl (x_alE (a := 21) (by decide) hw.1 sh395 (by decide) e6 g7 (by decide)) (x_clE e6 g7 (by decide)) rfl ?_
  refine e_ld (pc' := 27) i59_26 rfl rfl ?_
  refine e_ld (pc' := 28) i59_27 rfl rfl ?_
  refine e_get (w := .int (gI h q 5)) (pc' := 31) i59_28 rfl (x_isV hq.1 hq.2) rfl ?_
  refine e_un (pc' := 32) i59_31 rfl rfl ?_
  refine e_lb (z := ((gL h 395 k1) / ((gI h q 1).toInt64)) * ((gI h q 5).toInt64)) (pc' := 33) i59_32 rfl rfl ?_
  refine e_lb (z := (gL h 395 k5) + (((gL h 395 k1) / ((gI h q 1).toInt64)) * ((gI h q 5).toInt64))) (pc' := 34) i59_33 rfl rfl ?_
  refine e_as (n := k5) (h' := sL h 395 k5 ((gL h 395 k5) + (((gL h 395 k1) / ((gI h q 1).toInt64)) * ((gI h q 5).toInt64)))) (pc' := 35) i59_34 rfl (x_alE (a := 21) (by decide) hw.1 sh395 (by decide) e6 g7 (by decide)) (x_clE e6 g7 (by decide)) (by rw [(show (SH 395).1 = 21 by rw [sh395])]; rfl) ?_
  have w9 : HW (sL h 395 k5 ((gL h 395 k5) + (((gL h 395 k1) / ((gI h q 1).toInt64)) * ((gI h q 5).toInt64)))) := HW_sL hw
  refine e_ld (pc' := 36) i59_35 rfl rfl ?_
  refine e_get (w := .ref 395) (pc' := 39) i59_36 rfl (x_isC (by decide) w9.1 sh393) (x_fvR (by decide +kernel) (w9.2 393 1 395 lk393_1)) ?_
  refine e_ld (pc' := 40) i59_39 rfl rfl ?_
  refine e_get (w := .int (gI h q 6)) (pc' := 43) i59_40 rfl (x_isV hq.1 hq.2) (congrArg Value.int gI_psL) ?_
  refine e_stk (pc' := 44) i59_43 rfl rfl ?_
  obtain ⟨k9, e10, g11, H⟩ := H
  refine e_al (n := k9) (w := .long (gL (sL h 395 k5 ((gL h 395 k5) + (((gL h 395 k1) / ((gI h q 1).toInt64)) * ((gI h q 5).toInt64)))) 395 k9)) (pc' := 45) i59_44 rfl (x_alE (a := 21) (by decide) w9.1 sh395 (by decide) e10 g11 (by decide)) (x_clE e10 g11 (by decide)) rfl ?_
  refine e_ld (pc' := 46) i59_45 rfl rfl ?_
  refine e_ld (pc' := 47) i59_46 rfl rfl ?_
  refine e_get (w := .int (gI h q 7)) (pc' := 50) i59_47 rfl (x_isV hq.1 hq.2) (congrArg Value.int gI_psL) ?_
  refine e_un (pc' := 51) i59_50 rfl rfl ?_
  refine e_lb (z := ((gL h 395 k1) / ((gI h q 1).toInt64)) * ((gI h q 7).toInt64)) (pc' := 52) i59_51 rfl rfl ?_
  refine e_lb (z := (gL (sL h 395 k5 ((gL h 395 k5) + (((gL h 395 k1) / ((gI h q 1).toInt64)) * ((gI h q 5).toInt64)))) 395 k9) + (((gL h 395 k1) / ((gI h q 1).toInt64)) * ((gI h q 7).toInt64))) (pc' := 53) i59_52 rfl rfl ?_
  refine e_as (n := k9) (h' := sL (sL h 395 k5 ((gL h 395 k5) + (((gL h 395 k1) / ((gI h q 1).toInt64)) * ((gI h q 5).toInt64)))) 395 k9 ((gL (sL h 395 k5 ((gL h 395 k5) + (((gL h 395 k1) / ((gI h q 1).toInt64)) * ((gI h q 5).toInt64)))) 395 k9) + (((gL h 395 k1) / ((gI h q 1).toInt64)) * ((gI h q 7).toInt64)))) (pc' := 54) i59_53 rfl (x_alE (a := 21) (by decide) w9.1 sh395 (by decide) e10 g11 (by decide)) (x_clE e10 g11 (by decide)) (by rw [(show (SH 395).1 = 21 by rw [sh395])]; rfl) ?_
  have w14 : HW (sL (sL h 395 k5 ((gL h 395 k5) + (((gL h 395 k1) / ((gI h q 1).toInt64)) * ((gI h q 5).toInt64)))) 395 k9 ((gL (sL h 395 k5 ((gL h 395 k5) + (((gL h 395 k1) / ((gI h q 1).toInt64)) * ((gI h q 5).toInt64)))) 395 k9) + (((gL h 395 k1) / ((gI h q 1).toInt64)) * ((gI h q 7).toInt64)))) := HW_sL w9
  refine e_ld (pc' := 55) i59_54 rfl rfl ?_
  refine e_ld (pc' := 56) i59_55 rfl rfl ?_
  refine e_get (w := .int (gI h q 2)) (pc' := 59) i59_56 rfl (x_isV hq.1 hq.2) (congrArg Value.int (Eq.trans gI_psL gI_psL)) ?_
  refine e_un (pc' := 60) i59_59 rfl rfl ?_
  refine e_lb (z := ((gL h 395 k1) / ((gI h q 1).toInt64)) * ((gI h q 2).toInt64)) (pc' := 61) i59_60 rfl rfl ?_
  refine e_ld (pc' := 62) i59_61 rfl rfl ?_
  refine e_get (w := .long (gL h 393 3)) (pc' := 65) i59_62 rfl (x_isC (by decide) w14.1 sh393) (congrArg Value.long (Eq.trans (gL_osL (by decide)) (gL_osL (by decide)))) ?_
  refine e_lb (z := (((gL h 395 k1) / ((gI h q 1).toInt64)) * ((gI h q 2).toInt64)) + (gL h 393 3)) (pc' := 66) i59_65 rfl rfl ?_
  refine e_cn (pc' := 67) i59_66 rfl ?_
  refine e_lb (z := ((((gL h 395 k1) / ((gI h q 1).toInt64)) * ((gI h q 2).toInt64)) + (gL h 393 3)) - 1) (pc' := 68) i59_67 rfl rfl ?_
  refine e_ld (pc' := 69) i59_68 rfl rfl ?_
  refine e_get (w := .long (gL h 393 3)) (pc' := 72) i59_69 rfl (x_isC (by decide) w14.1 sh393) (congrArg Value.long (Eq.trans (gL_osL (by decide)) (gL_osL (by decide)))) ?_
  obtain ⟨g13, H⟩ := H
  refine e_lb (z := (((((gL h 395 k1) / ((gI h q 1).toInt64)) * ((gI h q 2).toInt64)) + (gL h 393 3)) - 1) / (gL h 393 3)) (pc' := 73) i59_72 rfl (x_lb_div g13) ?_
  refine e_un (pc' := 74) i59_73 rfl rfl ?_
  refine e_rt i59_74 rfl ?_
  exact H
-- FloorTurn$Planner.rateOf(IZ)J
set_option maxHeartbeats 8000000 in
set_option maxRecDepth 100000 in
theorem v60 {L : Nat} {xs : Nat → Int32} {Q : Option Value → Hp → Prop} {h : Hp} {x : Int32} {y : Bool} (hw : HW h) 
  (H : ∃ k1 : Nat, x = nI k1 ∧ k1 < 21 ∧ ∃ (r5 : Int64), Sp L xs 61 [.ref 393, .long (gL h 395 k1), .long (gL h 393 3)] h (some (.long r5)) h ∧ ((y = true) → ((¬ (if r5 < (1 : Int64) then 1 else r5) = 0) ∧ Q (some (.long ((gL h 393 3) / (if r5 < (1 : Int64) then 1 else r5)))) h)) ∧ (¬ (y = true) → ((¬ (if r5 < (1 : Int64) then 1 else r5) = 0) ∧ Q (some (.long ((gL h 395 k1) / (if r5 < (1 : Int64) then 1 else r5)))) h))) : ∃ r h', Sp L xs 60 [.ref 393, .int x, .int (b2i y)] h r h' ∧ Q r h' := by
  refine sp_ex (ls := [some (.ref 393), some (.int x), some (.int (b2i y)), none, none]) rfl ?_
  refine e_cn (pc' := 1) i60_0 rfl ?_
  refine e_ld (pc' := 2) i60_1 rfl rfl ?_
  refine e_ld (pc' := 3) i60_2 rfl rfl ?_
  refine e_get (w := .ref 395) (pc' := 6) i60_3 rfl (x_isC (by decide) hw.1 sh393) (x_fvR (by decide +kernel) (hw.2 393 1 395 lk393_1)) ?_
  refine e_ld (pc' := 7) i60_6 rfl rfl ?_
  obtain ⟨k1, e2, g3, H⟩ := H
  refine e_al (n := k1) (w := .long (gL h 395 k1)) (pc' := 8) i60_7 rfl (x_alE (a := 21) (by decide) hw.1 sh395 (by decide) e2 g3 (by decide)) (x_clE e2 g3 (by decide)) rfl ?_
  refine e_ld (pc' := 9) i60_8 rfl rfl ?_
  refine e_get (w := .long (gL h 393 3)) (pc' := 12) i60_9 rfl (x_isC (by decide) hw.1 sh393) rfl ?_
  obtain ⟨r5, s4, H⟩ := H
  refine e_cI (w := .long r5) (As := [.ref 393, .long (gL h 395 k1), .long (gL h 393 3)]) (rest := [.long 1]) (pc' := 15) i60_12 rfl rfl rfl rfl (by show (Nat.beq (x_kd 61) 0 && x_is 393 _ (MC 61) 0) = true; rw [show x_kd 61 = 0 by decide +kernel, show MC 61 = 5 by decide +kernel, (x_isC (by decide) hw.1 sh393)]; rfl) s4 ?_
  refine e_maxl (pc' := 18) i60_15 rfl rfl ?_
  refine e_st (ls' := [some (.ref 393), some (.int x), some (.int (b2i y)), some (.long (if r5 < (1 : Int64) then 1 else r5)), none]) (pc' := 19) i60_18 rfl rfl rfl ?_
  refine e_ld (pc' := 20) i60_19 rfl rfl ?_
  refine e_b0 (pc' := 23) i60_20 rfl (fun c6 => ?_) (fun c6 => ?_)
  · have d7 : ¬ (y = true) := (show ¬ y = true by rw [c6]; decide)
    replace H := H.2 d7
    refine e_ld (pc' := 31) i60_30 rfl rfl ?_
    refine e_get (w := .ref 395) (pc' := 34) i60_31 rfl (x_isC (by decide) hw.1 sh393) (x_fvR (by decide +kernel) (hw.2 393 1 395 lk393_1)) ?_
    refine e_ld (pc' := 35) i60_34 rfl rfl ?_
    refine e_al (n := k1) (w := .long (gL h 395 k1)) (pc' := 36) i60_35 rfl (x_alE (a := 21) (by decide) hw.1 sh395 (by decide) e2 g3 (by decide)) (x_clE e2 g3 (by decide)) rfl ?_
    refine e_ld (pc' := 37) i60_36 rfl rfl ?_
    obtain ⟨g8, H⟩ := H
    refine e_lb (z := (gL h 395 k1) / (if r5 < (1 : Int64) then 1 else r5)) (pc' := 38) i60_37 rfl (x_lb_div g8) ?_
    refine e_rt i60_38 rfl ?_
    exact H
  · have d9 : y = true := c6
    replace H := H.1 d9
    refine e_ld (pc' := 24) i60_23 rfl rfl ?_
    refine e_get (w := .long (gL h 393 3)) (pc' := 27) i60_24 rfl (x_isC (by decide) hw.1 sh393) rfl ?_
    refine e_go i60_27 ?_
    refine e_ld (pc' := 37) i60_36 rfl rfl ?_
    obtain ⟨g10, H⟩ := H
    refine e_lb (z := (gL h 393 3) / (if r5 < (1 : Int64) then 1 else r5)) (pc' := 38) i60_37 rfl (x_lb_div g10) ?_
    refine e_rt i60_38 rfl ?_
    exact H
-- FloorTurn$Planner.commonDivisor(JJ)J
set_option maxHeartbeats 8000000 in
set_option maxRecDepth 100000 in
theorem v61 {L : Nat} {xs : Nat → Int32} {Q : Option Value → Hp → Prop} {h : Hp} {x : Int64} {y : Int64} (hw : HW h) 
  (H : WP L xs 61 9 [some (.ref 393), some (.long x), none, some (.long y), none, some (.long x), none, some (.long y), none, some (.int 0), none, none] [] h Q) : ∃ r h', Sp L xs 61 [.ref 393, .long x, .long y] h r h' ∧ Q r h' := by
  refine sp_ex (ls := [some (.ref 393), some (.long x), none, some (.long y), none, none, none, none, none, none, none, none]) rfl ?_
  refine e_ld (pc' := 1) i61_0 rfl rfl ?_
  refine e_st (ls' := [some (.ref 393), some (.long x), none, some (.long y), none, some (.long x), none, none, none, none, none, none]) (pc' := 3) i61_1 rfl rfl rfl ?_
  refine e_ld (pc' := 4) i61_3 rfl rfl ?_
  refine e_st (ls' := [some (.ref 393), some (.long x), none, some (.long y), none, some (.long x), none, some (.long y), none, none, none, none]) (pc' := 6) i61_4 rfl rfl rfl ?_
  refine e_cn (pc' := 7) i61_6 rfl ?_
  refine e_st (ls' := [some (.ref 393), some (.long x), none, some (.long y), none, some (.long x), none, some (.long y), none, some (.int 0), none, none]) (pc' := 9) i61_7 rfl rfl rfl ?_
  exact H
set_option maxHeartbeats 8000000 in
set_option maxRecDepth 100000 in
theorem v61_9 {L : Nat} {xs : Nat → Int32} {Q : Option Value → Hp → Prop} {h : Hp} {z0 : Option Value} {z1 : Option Value} {z2 : Option Value} {z3 : Option Value} {z4 : Option Value} {l5 : Int64} {l7 : Int64} {l9 : Int32} {z10 : Option Value} {z11 : Option Value} (hw : HW h)  (z4_z : x_wide (some z4) = false)
  (H : ((200 ≤ l9) → (Q (some (.long l5)) h)) ∧ (¬ (200 ≤ l9) → ((((lg_cmp l7 0) = 0) → (Q (some (.long l5)) h)) ∧ (¬ ((lg_cmp l7 0) = 0) → ((¬ l7 = 0) ∧ WP L xs 61 9 [z0, z1, z2, z3, z4, some (.long l7), none, some (.long (l5 - l5 / l7 * l7)), none, some (.int (l9 + 1)), some (.long (l5 - l5 / l7 * l7)), none] [] h Q))))) : WP L xs 61 9 [z0, z1, z2, z3, z4, some (.long l5), none, some (.long l7), none, some (.int l9), z10, z11] [] h Q := by
  refine e_ld (pc' := 11) i61_9 rfl rfl ?_
  refine e_cn (pc' := 14) i61_11 rfl ?_
  refine e_ic (pc' := 17) i61_14 rfl (fun c1 => ?_) (fun c1 => ?_)
  · have d2 : 200 ≤ l9 := (of_decide_eq_true c1)
    replace H := H.1 d2
    refine e_ld (pc' := 47) i61_45 rfl rfl ?_
    refine e_rt i61_47 rfl ?_
    exact H
  · have d3 : ¬ (200 ≤ l9) := (of_decide_eq_false c1)
    replace H := H.2 d3
    refine e_ld (pc' := 19) i61_17 rfl rfl ?_
    refine e_cn (pc' := 20) i61_19 rfl ?_
    refine e_lcmp (pc' := 21) i61_20 rfl ?_
    refine e_if (pc' := 24) i61_21 rfl (fun c4 => ?_) (fun c4 => ?_)
    · have d5 : (lg_cmp l7 0) = 0 := (of_decide_eq_true c4)
      replace H := H.1 d5
      refine e_ld (pc' := 47) i61_45 rfl rfl ?_
      refine e_rt i61_47 rfl ?_
      exact H
    · have d6 : ¬ ((lg_cmp l7 0) = 0) := (of_decide_eq_false c4)
      replace H := H.2 d6
      refine e_ld (pc' := 26) i61_24 rfl rfl ?_
      refine e_ld (pc' := 28) i61_26 rfl rfl ?_
      obtain ⟨g7, H⟩ := H
      refine e_lb (z := l5 - l5 / l7 * l7) (pc' := 29) i61_28 rfl (x_lb_rem g7) ?_
      refine e_st (ls' := [z0, z1, z2, z3, z4, some (.long l5), none, some (.long l7), none, some (.int l9), some (.long (l5 - l5 / l7 * l7)), none]) (pc' := 31) i61_29 rfl rfl rfl ?_
      refine e_ld (pc' := 33) i61_31 rfl rfl ?_
      refine e_st (ls' := [z0, z1, z2, z3, z4, some (.long l7), none, some (.long l7), none, some (.int l9), some (.long (l5 - l5 / l7 * l7)), none]) (pc' := 35) i61_33 rfl rfl ((x_stzl (a := 4) rfl z4_z rfl).trans rfl) ?_
      refine e_ld (pc' := 37) i61_35 rfl rfl ?_
      refine e_st (ls' := [z0, z1, z2, z3, z4, some (.long l7), none, some (.long (l5 - l5 / l7 * l7)), none, some (.int l9), some (.long (l5 - l5 / l7 * l7)), none]) (pc' := 39) i61_37 rfl rfl rfl ?_
      refine e_inc (z := l9 + 1) (ls' := [z0, z1, z2, z3, z4, some (.long l7), none, some (.long (l5 - l5 / l7 * l7)), none, some (.int (l9 + 1)), some (.long (l5 - l5 / l7 * l7)), none]) (pc' := 42) i61_39 rfl rfl rfl rfl ?_
      refine e_go i61_42 ?_
      exact H
-- FloorTurn$Recipe.<init>(IIII)V
set_option maxHeartbeats 8000000 in
set_option maxRecDepth 100000 in
theorem v62 {L : Nat} {xs : Nat → Int32} {Q : Option Value → Hp → Prop} {h : Hp} {q : Nat} {x : Int32} {y : Int32} {z : Int32} {u : Int32} (hw : HW h) (hq : RQ q h.1)
  (H : Q none (sI (sI (sI (sI h q 0 x) q 1 y) q 2 z) q 3 u)) : ∃ r h', Sp L xs 62 [.ref q, .int x, .int y, .int z, .int u] h r h' ∧ Q r h' := by
  refine sp_ex (ls := [some (.ref q), some (.int x), some (.int y), some (.int z), some (.int u)]) rfl ?_
  refine e_ld (pc' := 1) i62_0 rfl rfl ?_
  refine e_obj (pc' := 4) i62_1 rfl rfl ?_
  refine e_ld (pc' := 5) i62_4 rfl rfl ?_
  refine e_ld (pc' := 6) i62_5 rfl rfl ?_
  refine e_put (h' := sI h q 0 x) (pc' := 9) i62_6 rfl (x_isV hq.1 hq.2) rfl ?_
  have w2 : HW (sI h q 0 x) := HW_sI hw
  refine e_ld (pc' := 10) i62_9 rfl rfl ?_
  refine e_ld (pc' := 11) i62_10 rfl rfl ?_
  refine e_put (h' := sI (sI h q 0 x) q 1 y) (pc' := 14) i62_11 rfl (x_isV hq.1 hq.2) rfl ?_
  have w4 : HW (sI (sI h q 0 x) q 1 y) := HW_sI w2
  refine e_ld (pc' := 15) i62_14 rfl rfl ?_
  refine e_ld (pc' := 16) i62_15 rfl rfl ?_
  refine e_put (h' := sI (sI (sI h q 0 x) q 1 y) q 2 z) (pc' := 19) i62_16 rfl (x_isV hq.1 hq.2) rfl ?_
  have w6 : HW (sI (sI (sI h q 0 x) q 1 y) q 2 z) := HW_sI w4
  refine e_ld (pc' := 20) i62_19 rfl rfl ?_
  refine e_ld (pc' := 22) i62_20 rfl rfl ?_
  refine e_put (h' := sI (sI (sI (sI h q 0 x) q 1 y) q 2 z) q 3 u) (pc' := 25) i62_22 rfl (x_isV hq.1 hq.2) rfl ?_
  have w8 : HW (sI (sI (sI (sI h q 0 x) q 1 y) q 2 z) q 3 u) := HW_sI w6
  refine e_rt i62_25 rfl ?_
  exact H
-- FloorTurn$Recipe.wants(IIII)V
set_option maxHeartbeats 8000000 in
set_option maxRecDepth 100000 in
theorem v63 {L : Nat} {xs : Nat → Int32} {Q : Option Value → Hp → Prop} {h : Hp} {q : Nat} {x : Int32} {y : Int32} {z : Int32} {u : Int32} (hw : HW h) (hq : RQ q h.1)
  (H : Q none (sI (sI (sI (sI h q 4 x) q 5 y) q 6 z) q 7 u)) : ∃ r h', Sp L xs 63 [.ref q, .int x, .int y, .int z, .int u] h r h' ∧ Q r h' := by
  refine sp_ex (ls := [some (.ref q), some (.int x), some (.int y), some (.int z), some (.int u)]) rfl ?_
  refine e_ld (pc' := 1) i63_0 rfl rfl ?_
  refine e_ld (pc' := 2) i63_1 rfl rfl ?_
  refine e_put (h' := sI h q 4 x) (pc' := 5) i63_2 rfl (x_isV hq.1 hq.2) rfl ?_
  have w2 : HW (sI h q 4 x) := HW_sI hw
  refine e_ld (pc' := 6) i63_5 rfl rfl ?_
  refine e_ld (pc' := 7) i63_6 rfl rfl ?_
  refine e_put (h' := sI (sI h q 4 x) q 5 y) (pc' := 10) i63_7 rfl (x_isV hq.1 hq.2) rfl ?_
  have w4 : HW (sI (sI h q 4 x) q 5 y) := HW_sI w2
  refine e_ld (pc' := 11) i63_10 rfl rfl ?_
  refine e_ld (pc' := 12) i63_11 rfl rfl ?_
  refine e_put (h' := sI (sI (sI h q 4 x) q 5 y) q 6 z) (pc' := 15) i63_12 rfl (x_isV hq.1 hq.2) rfl ?_
  have w6 : HW (sI (sI (sI h q 4 x) q 5 y) q 6 z) := HW_sI w4
  refine e_ld (pc' := 16) i63_15 rfl rfl ?_
  refine e_ld (pc' := 18) i63_16 rfl rfl ?_
  refine e_put (h' := sI (sI (sI (sI h q 4 x) q 5 y) q 6 z) q 7 u) (pc' := 21) i63_18 rfl (x_isV hq.1 hq.2) rfl ?_
  have w8 : HW (sI (sI (sI (sI h q 4 x) q 5 y) q 6 z) q 7 u) := HW_sI w6
  refine e_rt i63_21 rfl ?_
  exact H
-- FloorTurn$Router.fewest(LFloorTurn$Floor;II)I
set_option maxHeartbeats 8000000 in
set_option maxRecDepth 100000 in
theorem v65 {L : Nat} {xs : Nat → Int32} {Q : Option Value → Hp → Prop} {h : Hp} {y : Int32} {z : Int32} (hw : HW h) 
  (H : (((x_isCell y) = true) → ((((x_isCell z) = true) → (((y = z) → (Q (some (.int (-1))) h)) ∧ (¬ (y = z) → (∃ k9 : Nat, y = nI k9 ∧ k9 < 144 ∧ (((cnG (gI h (10 + k9) 0)) = true) → (∃ k15 : Nat, z = nI k15 ∧ k15 < 144 ∧ (((cnT (gI h (10 + k15) 0)) = true) → (∃ (r21 : Int32), Sp L xs 68 [.ref 390, .ref 4, .int y, .int z] h (some (.int r21)) h ∧ ((r21 = 0) → (∃ (h24 : Hp), Sp L xs 70 [.ref 390, .ref 4, .int z] h none h24 ∧ WP L xs 65 79 [some (.ref 390), some (.ref 4), some (.int y), some (.int z), some (.int (-1)), some (.int 0), none] [] h24 Q)) ∧ (¬ (r21 = 0) → (Q (some (.int 0)) h)))) ∧ (¬ ((cnT (gI h (10 + k15) 0)) = true) → (Q (some (.int (-1))) h)))) ∧ (¬ ((cnG (gI h (10 + k9) 0)) = true) → (Q (some (.int (-1))) h)))))) ∧ (¬ ((x_isCell z) = true) → (Q (some (.int (-1))) h)))) ∧ (¬ ((x_isCell y) = true) → (Q (some (.int (-1))) h))) : ∃ r h', Sp L xs 65 [.ref 390, .ref 4, .int y, .int z] h r h' ∧ Q r h' := by
  refine sp_ex (ls := [some (.ref 390), some (.ref 4), some (.int y), some (.int z), none, none, none]) rfl ?_
  refine e_ld (pc' := 1) i65_0 rfl rfl ?_
  refine e_cI (w := .int (b2i (x_isCell y))) (As := [.int y]) (rest := []) (pc' := 4) i65_1 rfl rfl rfl rfl rfl m115 ?_
  refine e_b0 (pc' := 7) i65_4 rfl (fun c1 => ?_) (fun c1 => ?_)
  · have d2 : ¬ ((x_isCell y) = true) := (show ¬ (x_isCell y) = true by rw [c1]; decide)
    replace H := H.2 d2
    refine e_cn (pc' := 20) i65_19 rfl ?_
    refine e_rt i65_20 rfl ?_
    exact H
  · have d3 : (x_isCell y) = true := c1
    replace H := H.1 d3
    refine e_ld (pc' := 8) i65_7 rfl rfl ?_
    refine e_cI (w := .int (b2i (x_isCell z))) (As := [.int z]) (rest := []) (pc' := 11) i65_8 rfl rfl rfl rfl rfl m115 ?_
    refine e_b0 (pc' := 14) i65_11 rfl (fun c4 => ?_) (fun c4 => ?_)
    · have d5 : ¬ ((x_isCell z) = true) := (show ¬ (x_isCell z) = true by rw [c4]; decide)
      replace H := H.2 d5
      refine e_cn (pc' := 20) i65_19 rfl ?_
      refine e_rt i65_20 rfl ?_
      exact H
    · have d6 : (x_isCell z) = true := c4
      replace H := H.1 d6
      refine e_ld (pc' := 15) i65_14 rfl rfl ?_
      refine e_ld (pc' := 16) i65_15 rfl rfl ?_
      refine e_ic (pc' := 19) i65_16 rfl (fun c7 => ?_) (fun c7 => ?_)
      · have d8 : ¬ (y = z) := (of_decide_eq_true c7)
        replace H := H.2 d8
        refine e_ld (pc' := 22) i65_21 rfl rfl ?_
        refine e_ld (pc' := 23) i65_22 rfl rfl ?_
        refine e_get (w := .ref 5) (pc' := 26) i65_23 rfl (x_isC (by decide) hw.1 sh4) (x_fvR (by decide +kernel) (hw.2 4 1 5 lk4_1)) ?_
        refine e_ld (pc' := 27) i65_26 rfl rfl ?_
        obtain ⟨k9, e10, g11, H⟩ := H
        refine e_al (n := k9) (w := .ref (10 + k9)) (pc' := 28) i65_27 rfl (x_alE (a := 23) (by decide) hw.1 sh5 (by decide) e10 g11 (by decide)) (x_clE e10 g11 (by decide)) (x_agR (hw.2 _ _ _ (LK_p4 g11))) ?_
        refine e_get (w := .int (gI h (10 + k9) 0)) (pc' := 31) i65_28 rfl (x_isP (PT_4 g11) hw.1) rfl ?_
        refine e_cI (w := .int (b2i (cnG (gI h (10 + k9) 0)))) (As := [.ref 390, .int (gI h (10 + k9) 0)]) (rest := []) (pc' := 34) i65_31 rfl rfl rfl rfl (by show (Nat.beq (x_kd 66) 0 && x_is 390 _ (MC 66) 0) = true; rw [show x_kd 66 = 0 by decide +kernel, show MC 66 = 7 by decide +kernel, (x_isC (by decide) hw.1 sh390)]; rfl) m66 ?_
        refine e_b0 (pc' := 37) i65_34 rfl (fun c12 => ?_) (fun c12 => ?_)
        · have d13 : ¬ ((cnG (gI h (10 + k9) 0)) = true) := (show ¬ (cnG (gI h (10 + k9) 0)) = true by rw [c12]; decide)
          replace H := H.2 d13
          refine e_cn (pc' := 54) i65_53 rfl ?_
          refine e_rt i65_54 rfl ?_
          exact H
        · have d14 : (cnG (gI h (10 + k9) 0)) = true := c12
          replace H := H.1 d14
          refine e_ld (pc' := 38) i65_37 rfl rfl ?_
          refine e_ld (pc' := 39) i65_38 rfl rfl ?_
          refine e_get (w := .ref 5) (pc' := 42) i65_39 rfl (x_isC (by decide) hw.1 sh4) (x_fvR (by decide +kernel) (hw.2 4 1 5 lk4_1)) ?_
          refine e_ld (pc' := 43) i65_42 rfl rfl ?_
          obtain ⟨k15, e16, g17, H⟩ := H
          refine e_al (n := k15) (w := .ref (10 + k15)) (pc' := 44) i65_43 rfl (x_alE (a := 23) (by decide) hw.1 sh5 (by decide) e16 g17 (by decide)) (x_clE e16 g17 (by decide)) (x_agR (hw.2 _ _ _ (LK_p4 g17))) ?_
          refine e_get (w := .int (gI h (10 + k15) 0)) (pc' := 47) i65_44 rfl (x_isP (PT_4 g17) hw.1) rfl ?_
          refine e_cI (w := .int (b2i (cnT (gI h (10 + k15) 0)))) (As := [.ref 390, .int (gI h (10 + k15) 0)]) (rest := []) (pc' := 50) i65_47 rfl rfl rfl rfl (by show (Nat.beq (x_kd 67) 0 && x_is 390 _ (MC 67) 0) = true; rw [show x_kd 67 = 0 by decide +kernel, show MC 67 = 7 by decide +kernel, (x_isC (by decide) hw.1 sh390)]; rfl) m67 ?_
          refine e_b1 (pc' := 53) i65_50 rfl (fun c18 => ?_) (fun c18 => ?_)
          · have d19 : (cnT (gI h (10 + k15) 0)) = true := c18
            replace H := H.1 d19
            refine e_ld (pc' := 56) i65_55 rfl rfl ?_
            refine e_ld (pc' := 57) i65_56 rfl rfl ?_
            refine e_ld (pc' := 58) i65_57 rfl rfl ?_
            refine e_ld (pc' := 59) i65_58 rfl rfl ?_
            obtain ⟨r21, s20, H⟩ := H
            refine e_cI (w := .int r21) (As := [.ref 390, .ref 4, .int y, .int z]) (rest := []) (pc' := 62) i65_59 rfl rfl rfl rfl (by show (Nat.beq (x_kd 68) 0 && x_is 390 _ (MC 68) 0) = true; rw [show x_kd 68 = 0 by decide +kernel, show MC 68 = 7 by decide +kernel, (x_isC (by decide) hw.1 sh390)]; rfl) s20 ?_
            refine e_if (pc' := 65) i65_62 rfl (fun c22 => ?_) (fun c22 => ?_)
            · have d23 : r21 = 0 := (of_decide_eq_true c22)
              replace H := H.1 d23
              refine e_ld (pc' := 68) i65_67 rfl rfl ?_
              refine e_ld (pc' := 69) i65_68 rfl rfl ?_
              refine e_ld (pc' := 70) i65_69 rfl rfl ?_
              obtain ⟨h24, s25, H⟩ := H
              have w27q := HW_sp (show x_okm 70 = true by rfl) s25 hw
              have w27 : HW h24 := w27q.1
              refine e_cV (As := [.ref 390, .ref 4, .int z]) (rest := []) (pc' := 73) i65_70 rfl rfl rfl rfl (by show (Nat.beq (x_kd 70) 0 && x_is 390 _ (MC 70) 0) = true; rw [show x_kd 70 = 0 by decide +kernel, show MC 70 = 7 by decide +kernel, (x_isC (by decide) hw.1 sh390)]; rfl) s25 ?_
              refine e_cn (pc' := 74) i65_73 rfl ?_
              refine e_st (ls' := [some (.ref 390), some (.ref 4), some (.int y), some (.int z), some (.int (-1)), none, none]) (pc' := 76) i65_74 rfl rfl rfl ?_
              refine e_cn (pc' := 77) i65_76 rfl ?_
              refine e_st (ls' := [some (.ref 390), some (.ref 4), some (.int y), some (.int z), some (.int (-1)), some (.int 0), none]) (pc' := 79) i65_77 rfl rfl rfl ?_
              exact H
            · have d27 : ¬ (r21 = 0) := (of_decide_eq_false c22)
              replace H := H.2 d27
              refine e_cn (pc' := 66) i65_65 rfl ?_
              refine e_rt i65_66 rfl ?_
              exact H
          · have d28 : ¬ ((cnT (gI h (10 + k15) 0)) = true) := (show ¬ (cnT (gI h (10 + k15) 0)) = true by rw [c18]; decide)
            replace H := H.2 d28
            refine e_cn (pc' := 54) i65_53 rfl ?_
            refine e_rt i65_54 rfl ?_
            exact H
      · have d29 : y = z := (Decidable.not_not.mp (of_decide_eq_false c7))
        replace H := H.1 d29
        refine e_cn (pc' := 20) i65_19 rfl ?_
        refine e_rt i65_20 rfl ?_
        exact H
set_option maxHeartbeats 8000000 in
set_option maxRecDepth 100000 in
theorem v65_79 {L : Nat} {xs : Nat → Int32} {Q : Option Value → Hp → Prop} {h : Hp} {l2 : Int32} {z3 : Option Value} {l4 : Int32} {l5 : Int32} {z6 : Option Value} (hw : HW h)  (z3_z : x_wide (some z3) = false)
  (H : ((4 ≤ l5) → (Q (some (.int l4)) h)) ∧ (¬ (4 ≤ l5) → (∃ (r5 : Int32), Sp L xs 69 [.ref 390, .ref 4, .int l2, .int l5] h (some (.int r5)) h ∧ ((r5 ≤ 0) → (WP L xs 65 79 [some (.ref 390), some (.ref 4), some (.int l2), z3, some (.int l4), some (.int (l5 + 1)), some (.int r5)] [] h Q)) ∧ (¬ (r5 ≤ 0) → (((l4 = (-1)) → (WP L xs 65 79 [some (.ref 390), some (.ref 4), some (.int l2), z3, some (.int r5), some (.int (l5 + 1)), some (.int r5)] [] h Q)) ∧ (¬ (l4 = (-1)) → (((l4 ≤ r5) → (WP L xs 65 79 [some (.ref 390), some (.ref 4), some (.int l2), z3, some (.int l4), some (.int (l5 + 1)), some (.int r5)] [] h Q)) ∧ (¬ (l4 ≤ r5) → (WP L xs 65 79 [some (.ref 390), some (.ref 4), some (.int l2), z3, some (.int r5), some (.int (l5 + 1)), some (.int r5)] [] h Q))))))))) : WP L xs 65 79 [some (.ref 390), some (.ref 4), some (.int l2), z3, some (.int l4), some (.int l5), z6] [] h Q := by
  refine e_ld (pc' := 81) i65_79 rfl rfl ?_
  refine e_cn (pc' := 82) i65_81 rfl ?_
  refine e_ic (pc' := 85) i65_82 rfl (fun c1 => ?_) (fun c1 => ?_)
  · have d2 : 4 ≤ l5 := (of_decide_eq_true c1)
    replace H := H.1 d2
    refine e_ld (pc' := 125) i65_123 rfl rfl ?_
    refine e_rt i65_125 rfl ?_
    exact H
  · have d3 : ¬ (4 ≤ l5) := (of_decide_eq_false c1)
    replace H := H.2 d3
    refine e_ld (pc' := 86) i65_85 rfl rfl ?_
    refine e_ld (pc' := 87) i65_86 rfl rfl ?_
    refine e_ld (pc' := 88) i65_87 rfl rfl ?_
    refine e_ld (pc' := 90) i65_88 rfl rfl ?_
    obtain ⟨r5, s4, H⟩ := H
    refine e_cI (w := .int r5) (As := [.ref 390, .ref 4, .int l2, .int l5]) (rest := []) (pc' := 93) i65_90 rfl rfl rfl rfl (by show (Nat.beq (x_kd 69) 0 && x_is 390 _ (MC 69) 0) = true; rw [show x_kd 69 = 0 by decide +kernel, show MC 69 = 7 by decide +kernel, (x_isC (by decide) hw.1 sh390)]; rfl) s4 ?_
    refine e_st (ls' := [some (.ref 390), some (.ref 4), some (.int l2), z3, some (.int l4), some (.int l5), some (.int r5)]) (pc' := 95) i65_93 rfl rfl rfl ?_
    refine e_ld (pc' := 97) i65_95 rfl rfl ?_
    refine e_if (pc' := 100) i65_97 rfl (fun c6 => ?_) (fun c6 => ?_)
    · have d7 : r5 ≤ 0 := (of_decide_eq_true c6)
      replace H := H.1 d7
      refine e_inc (z := l5 + 1) (ls' := [some (.ref 390), some (.ref 4), some (.int l2), z3, some (.int l4), some (.int (l5 + 1)), some (.int r5)]) (pc' := 120) i65_117 rfl rfl rfl rfl ?_
      refine e_go i65_120 ?_
      exact H
    · have d8 : ¬ (r5 ≤ 0) := (of_decide_eq_false c6)
      replace H := H.2 d8
      refine e_ld (pc' := 102) i65_100 rfl rfl ?_
      refine e_cn (pc' := 103) i65_102 rfl ?_
      refine e_ic (pc' := 106) i65_103 rfl (fun c9 => ?_) (fun c9 => ?_)
      · have d10 : l4 = (-1) := (of_decide_eq_true c9)
        replace H := H.1 d10
        refine e_ld (pc' := 115) i65_113 rfl rfl ?_
        refine e_st (ls' := [some (.ref 390), some (.ref 4), some (.int l2), z3, some (.int r5), some (.int l5), some (.int r5)]) (pc' := 117) i65_115 rfl rfl ((x_stz (a := 3) rfl z3_z rfl).trans rfl) ?_
        refine e_inc (z := l5 + 1) (ls' := [some (.ref 390), some (.ref 4), some (.int l2), z3, some (.int r5), some (.int (l5 + 1)), some (.int r5)]) (pc' := 120) i65_117 rfl rfl rfl rfl ?_
        refine e_go i65_120 ?_
        exact H
      · have d11 : ¬ (l4 = (-1)) := (of_decide_eq_false c9)
        replace H := H.2 d11
        refine e_ld (pc' := 108) i65_106 rfl rfl ?_
        refine e_ld (pc' := 110) i65_108 rfl rfl ?_
        refine e_ic (pc' := 113) i65_110 rfl (fun c12 => ?_) (fun c12 => ?_)
        · have d13 : l4 ≤ r5 := (of_decide_eq_true c12)
          replace H := H.1 d13
          refine e_inc (z := l5 + 1) (ls' := [some (.ref 390), some (.ref 4), some (.int l2), z3, some (.int l4), some (.int (l5 + 1)), some (.int r5)]) (pc' := 120) i65_117 rfl rfl rfl rfl ?_
          refine e_go i65_120 ?_
          exact H
        · have d14 : ¬ (l4 ≤ r5) := (of_decide_eq_false c12)
          replace H := H.2 d14
          refine e_ld (pc' := 115) i65_113 rfl rfl ?_
          refine e_st (ls' := [some (.ref 390), some (.ref 4), some (.int l2), z3, some (.int r5), some (.int l5), some (.int r5)]) (pc' := 117) i65_115 rfl rfl ((x_stz (a := 3) rfl z3_z rfl).trans rfl) ?_
          refine e_inc (z := l5 + 1) (ls' := [some (.ref 390), some (.ref 4), some (.int l2), z3, some (.int r5), some (.int (l5 + 1)), some (.int r5)]) (pc' := 120) i65_117 rfl rfl rfl rfl ?_
          refine e_go i65_120 ?_
          exact H
-- FloorTurn$Router.joined(LFloorTurn$Floor;II)Z
set_option maxHeartbeats 8000000 in
set_option maxRecDepth 100000 in
theorem v68 {L : Nat} {xs : Nat → Int32} {Q : Option Value → Hp → Prop} {h : Hp} {y : Int32} {z : Int32} (hw : HW h) 
  (H : WP L xs 68 3 [some (.ref 390), some (.ref 4), some (.int y), some (.int z), some (.int 0)] [] h Q) : ∃ r h', Sp L xs 68 [.ref 390, .ref 4, .int y, .int z] h r h' ∧ Q r h' := by
  refine sp_ex (ls := [some (.ref 390), some (.ref 4), some (.int y), some (.int z), none]) rfl ?_
  refine e_cn (pc' := 1) i68_0 rfl ?_
  refine e_st (ls' := [some (.ref 390), some (.ref 4), some (.int y), some (.int z), some (.int 0)]) (pc' := 3) i68_1 rfl rfl rfl ?_
  exact H
set_option maxHeartbeats 8000000 in
set_option maxRecDepth 100000 in
theorem v68_3 {L : Nat} {xs : Nat → Int32} {Q : Option Value → Hp → Prop} {h : Hp} {z0 : Option Value} {l2 : Int32} {l3 : Int32} {l4 : Int32} (hw : HW h) 
  (H : ((4 ≤ l4) → (Q (some (.int 0)) h)) ∧ (¬ (4 ≤ l4) → (∃ k4 : Nat, l2 = nI k4 ∧ k4 < 144 ∧ ∃ (r8 : Int32), Sp L xs 29 [.ref (10 + k4), .int l4] h (some (.int r8)) h ∧ ((r8 = 0) → (WP L xs 68 3 [z0, some (.ref 4), some (.int l2), some (.int l3), some (.int (l4 + 1))] [] h Q)) ∧ (¬ (r8 = 0) → ((((nbr l2 l4) = l3) → (∃ k15 : Nat, l3 = nI k15 ∧ k15 < 144 ∧ ∃ (r19 : Int32), Sp L xs 29 [.ref (10 + k15), .int (opp l4)] h (some (.int r19)) h ∧ Q (some (.int (b2i (if r19 = 0 then (true) else (false))))) h)) ∧ (¬ ((nbr l2 l4) = l3) → (WP L xs 68 3 [z0, some (.ref 4), some (.int l2), some (.int l3), some (.int (l4 + 1))] [] h Q))))))) : WP L xs 68 3 [z0, some (.ref 4), some (.int l2), some (.int l3), some (.int l4)] [] h Q := by
  refine e_ld (pc' := 5) i68_3 rfl rfl ?_
  refine e_cn (pc' := 6) i68_5 rfl ?_
  refine e_ic (pc' := 9) i68_6 rfl (fun c1 => ?_) (fun c1 => ?_)
  · have d2 : 4 ≤ l4 := (of_decide_eq_true c1)
    replace H := H.1 d2
    refine e_cn (pc' := 63) i68_62 rfl ?_
    refine e_rt i68_63 rfl ?_
    exact H
  · have d3 : ¬ (4 ≤ l4) := (of_decide_eq_false c1)
    replace H := H.2 d3
    refine e_ld (pc' := 10) i68_9 rfl rfl ?_
    refine e_get (w := .ref 5) (pc' := 13) i68_10 rfl (x_isC (by decide) hw.1 sh4) (x_fvR (by decide +kernel) (hw.2 4 1 5 lk4_1)) ?_
    refine e_ld (pc' := 14) i68_13 rfl rfl ?_
    obtain ⟨k4, e5, g6, H⟩ := H
    refine e_al (n := k4) (w := .ref (10 + k4)) (pc' := 15) i68_14 rfl (x_alE (a := 23) (by decide) hw.1 sh5 (by decide) e5 g6 (by decide)) (x_clE e5 g6 (by decide)) (x_agR (hw.2 _ _ _ (LK_p4 g6))) ?_
    refine e_ld (pc' := 17) i68_15 rfl rfl ?_
    obtain ⟨r8, s7, H⟩ := H
    refine e_cI (w := .int r8) (As := [.ref (10 + k4), .int l4]) (rest := []) (pc' := 20) i68_17 rfl rfl rfl rfl (by show (Nat.beq (x_kd 29) 0 && x_is (10 + k4) _ (MC 29) 0) = true; rw [show x_kd 29 = 0 by decide +kernel, show MC 29 = 3 by decide +kernel, (x_isP (PT_4 g6) hw.1)]; rfl) s7 ?_
    refine e_if (pc' := 23) i68_20 rfl (fun c9 => ?_) (fun c9 => ?_)
    · have d10 : r8 = 0 := (of_decide_eq_true c9)
      replace H := H.1 d10
      refine e_inc (z := l4 + 1) (ls' := [z0, some (.ref 4), some (.int l2), some (.int l3), some (.int (l4 + 1))]) (pc' := 59) i68_56 rfl rfl rfl rfl ?_
      refine e_go i68_59 ?_
      exact H
    · have d11 : ¬ (r8 = 0) := (of_decide_eq_false c9)
      replace H := H.2 d11
      refine e_ld (pc' := 24) i68_23 rfl rfl ?_
      refine e_ld (pc' := 26) i68_24 rfl rfl ?_
      refine e_cI (w := .int (nbr l2 l4)) (As := [.int l2, .int l4]) (rest := []) (pc' := 29) i68_26 rfl rfl rfl rfl rfl m121 ?_
      refine e_ld (pc' := 30) i68_29 rfl rfl ?_
      refine e_ic (pc' := 33) i68_30 rfl (fun c12 => ?_) (fun c12 => ?_)
      · have d13 : ¬ ((nbr l2 l4) = l3) := (of_decide_eq_true c12)
        replace H := H.2 d13
        refine e_inc (z := l4 + 1) (ls' := [z0, some (.ref 4), some (.int l2), some (.int l3), some (.int (l4 + 1))]) (pc' := 59) i68_56 rfl rfl rfl rfl ?_
        refine e_go i68_59 ?_
        exact H
      · have d14 : (nbr l2 l4) = l3 := (Decidable.not_not.mp (of_decide_eq_false c12))
        replace H := H.1 d14
        refine e_ld (pc' := 34) i68_33 rfl rfl ?_
        refine e_get (w := .ref 5) (pc' := 37) i68_34 rfl (x_isC (by decide) hw.1 sh4) (x_fvR (by decide +kernel) (hw.2 4 1 5 lk4_1)) ?_
        refine e_ld (pc' := 38) i68_37 rfl rfl ?_
        obtain ⟨k15, e16, g17, H⟩ := H
        refine e_al (n := k15) (w := .ref (10 + k15)) (pc' := 39) i68_38 rfl (x_alE (a := 23) (by decide) hw.1 sh5 (by decide) e16 g17 (by decide)) (x_clE e16 g17 (by decide)) (x_agR (hw.2 _ _ _ (LK_p4 g17))) ?_
        refine e_ld (pc' := 41) i68_39 rfl rfl ?_
        refine e_cI (w := .int (opp l4)) (As := [.int l4]) (rest := [.ref (10 + k15)]) (pc' := 44) i68_41 rfl rfl rfl rfl rfl m120 ?_
        obtain ⟨r19, s18, H⟩ := H
        refine e_cI (w := .int r19) (As := [.ref (10 + k15), .int (opp l4)]) (rest := []) (pc' := 47) i68_44 rfl rfl rfl rfl (by show (Nat.beq (x_kd 29) 0 && x_is (10 + k15) _ (MC 29) 0) = true; rw [show x_kd 29 = 0 by decide +kernel, show MC 29 = 3 by decide +kernel, (x_isP (PT_4 g17) hw.1)]; rfl) s18 ?_
        refine e_reg (pc' := 55) (ls' := [z0, some (.ref 4), some (.int l2), some (.int l3), some (.int l4)]) (st' := [.int (b2i (if r19 = 0 then (true) else (false)))]) (fun kj20 => ?_) ?_
        · skip
          refine e_if (pc' := 50) i68_47 rfl (fun c21 => ?_) (fun c21 => ?_)
          · have d22 : ¬ (r19 = 0) := (of_decide_eq_true c21)
            refine e_cn (pc' := 55) i68_54 rfl ?_
            exact (by simp only [if_neg d22] at kj20 ⊢; exact kj20)
          · have d23 : r19 = 0 := (Decidable.not_not.mp (of_decide_eq_false c21))
            refine e_cn (pc' := 51) i68_50 rfl ?_
            refine e_go i68_51 ?_
            exact (by simp only [if_pos d23] at kj20 ⊢; exact kj20)
        refine e_rt (r := some (.int (b2i (if r19 = 0 then (true) else (false))))) i68_55 (by simp only [x_rt, show MR 68 = some .boolean by decide +kernel, b2i_01, cond_true]) ?_
        exact H
-- FloorTurn$Router.beltsFrom(LFloorTurn$Floor;II)I
set_option maxHeartbeats 8000000 in
set_option maxRecDepth 100000 in
theorem v69 {L : Nat} {xs : Nat → Int32} {Q : Option Value → Hp → Prop} {h : Hp} {y : Int32} {z : Int32} (hw : HW h) 
  (H : ∃ k1 : Nat, y = nI k1 ∧ k1 < 144 ∧ ∃ (r5 : Int32), Sp L xs 29 [.ref (10 + k1), .int z] h (some (.int r5)) h ∧ ((r5 = 0) → (Q (some (.int 0)) h)) ∧ (¬ (r5 = 0) → ((((nbr y z) = (-1)) → (Q (some (.int 0)) h)) ∧ (¬ ((nbr y z) = (-1)) → (∃ k12 : Nat, (nbr y z) = nI k12 ∧ k12 < 144 ∧ Q (some (.int (gI h 391 k12))) h))))) : ∃ r h', Sp L xs 69 [.ref 390, .ref 4, .int y, .int z] h r h' ∧ Q r h' := by
  refine sp_ex (ls := [some (.ref 390), some (.ref 4), some (.int y), some (.int z), none]) rfl ?_
  refine e_ld (pc' := 1) i69_0 rfl rfl ?_
  refine e_ld (pc' := 2) i69_1 rfl rfl ?_
  refine e_cI (w := .int (nbr y z)) (As := [.int y, .int z]) (rest := []) (pc' := 5) i69_2 rfl rfl rfl rfl rfl m121 ?_
  refine e_st (ls' := [some (.ref 390), some (.ref 4), some (.int y), some (.int z), some (.int (nbr y z))]) (pc' := 7) i69_5 rfl rfl rfl ?_
  refine e_ld (pc' := 8) i69_7 rfl rfl ?_
  refine e_get (w := .ref 5) (pc' := 11) i69_8 rfl (x_isC (by decide) hw.1 sh4) (x_fvR (by decide +kernel) (hw.2 4 1 5 lk4_1)) ?_
  refine e_ld (pc' := 12) i69_11 rfl rfl ?_
  obtain ⟨k1, e2, g3, H⟩ := H
  refine e_al (n := k1) (w := .ref (10 + k1)) (pc' := 13) i69_12 rfl (x_alE (a := 23) (by decide) hw.1 sh5 (by decide) e2 g3 (by decide)) (x_clE e2 g3 (by decide)) (x_agR (hw.2 _ _ _ (LK_p4 g3))) ?_
  refine e_ld (pc' := 14) i69_13 rfl rfl ?_
  obtain ⟨r5, s4, H⟩ := H
  refine e_cI (w := .int r5) (As := [.ref (10 + k1), .int z]) (rest := []) (pc' := 17) i69_14 rfl rfl rfl rfl (by show (Nat.beq (x_kd 29) 0 && x_is (10 + k1) _ (MC 29) 0) = true; rw [show x_kd 29 = 0 by decide +kernel, show MC 29 = 3 by decide +kernel, (x_isP (PT_4 g3) hw.1)]; rfl) s4 ?_
  refine e_if (pc' := 20) i69_17 rfl (fun c6 => ?_) (fun c6 => ?_)
  · have d7 : r5 = 0 := (of_decide_eq_true c6)
    replace H := H.1 d7
    refine e_cn (pc' := 37) i69_36 rfl ?_
    refine e_rt i69_37 rfl ?_
    exact H
  · have d8 : ¬ (r5 = 0) := (of_decide_eq_false c6)
    replace H := H.2 d8
    refine e_ld (pc' := 22) i69_20 rfl rfl ?_
    refine e_cn (pc' := 23) i69_22 rfl ?_
    refine e_ic (pc' := 26) i69_23 rfl (fun c9 => ?_) (fun c9 => ?_)
    · have d10 : (nbr y z) = (-1) := (of_decide_eq_true c9)
      replace H := H.1 d10
      refine e_cn (pc' := 37) i69_36 rfl ?_
      refine e_rt i69_37 rfl ?_
      exact H
    · have d11 : ¬ ((nbr y z) = (-1)) := (of_decide_eq_false c9)
      replace H := H.2 d11
      refine e_ld (pc' := 27) i69_26 rfl rfl ?_
      refine e_get (w := .ref 391) (pc' := 30) i69_27 rfl (x_isC (by decide) hw.1 sh390) (x_fvR (by decide +kernel) (hw.2 390 0 391 lk390_0)) ?_
      refine e_ld (pc' := 32) i69_30 rfl rfl ?_
      obtain ⟨k12, e13, g14, H⟩ := H
      refine e_al (n := k12) (w := .int (gI h 391 k12)) (pc' := 33) i69_32 rfl (x_alE (a := 20) (by decide) hw.1 sh391 (by decide) e13 g14 (by decide)) (x_clE e13 g14 (by decide)) rfl ?_
      refine e_go i69_33 ?_
      refine e_rt i69_37 rfl ?_
      exact H
