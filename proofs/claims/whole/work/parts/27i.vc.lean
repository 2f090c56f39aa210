/-! Conditions of methods (made by wip/whole/vcmake.py). -/
-- FloorTurnModel.builds(I)I
set_option maxHeartbeats 8000000 in
set_option maxRecDepth 100000 in
theorem v147 {L : Nat} {xs : Nat → Int32} {Q : Option Value → Hp → Prop} {h : Hp} {x : Int32} (hw : HW h) 
  (H : ∃ (r2 : Int32), Sp L xs 140 [.ref 397, .int x] h (some (.int r2)) h ∧ ((r2 = 0) → (∃ k5 : Nat, x = nI k5 ∧ k5 < 8 ∧ WP L xs 147 46 [some (.ref 397), some (.int x), some (.int r2), some (.int ((gI h 421 k5) / 5)), some (.int (b2i (if ((gI h 421 k5) - (gI h 421 k5) / 5 * 5) = 0 then (true) else (false)))), some (.int 0), none] [] h Q)) ∧ (¬ (r2 = 0) → (∃ (r15 : Int32) (h13 : Hp), Sp L xs 124 [.ref 397, .int r2] h (some (.int r15)) h13 ∧ Q (some (.int r15)) h13))) : ∃ r h', Sp L xs 147 [.ref 397, .int x] h r h' ∧ Q r h' := by
  refine sp_ex (ls := [some (.ref 397), some (.int x), none, none, none, none, none]) rfl ?_
  refine e_ld (pc' := 1) i147_0 rfl rfl ?_
  refine e_ld (pc' := 2) i147_1 rfl rfl ?_
  obtain ⟨r2, s1, H⟩ := H
  refine e_cI (w := .int r2) (As := [.ref 397, .int x]) (rest := []) (pc' := 5) i147_2 rfl rfl rfl rfl (by show (Nat.beq (x_kd 140) 0 && x_is 397 _ (MC 140) 0) = true; rw [show x_kd 140 = 0 by decide +kernel, show MC 140 = 11 by decide +kernel, (x_isC (by decide) hw.1 sh397)]; rfl) s1 ?_
  refine e_st (ls' := [some (.ref 397), some (.int x), some (.int r2), none, none, none, none]) (pc' := 6) i147_5 rfl rfl rfl ?_
  refine e_ld (pc' := 7) i147_6 rfl rfl ?_
  refine e_if (pc' := 10) i147_7 rfl (fun c3 => ?_) (fun c3 => ?_)
  · have d4 : r2 = 0 := (of_decide_eq_true c3)
    replace H := H.1 d4
    refine e_ld (pc' := 17) i147_16 rfl rfl ?_
    refine e_get (w := .ref 421) (pc' := 20) i147_17 rfl (x_isC (by decide) hw.1 sh397) (x_fvR (by decide +kernel) (hw.2 397 25 421 lk397_25)) ?_
    refine e_ld (pc' := 21) i147_20 rfl rfl ?_
    obtain ⟨k5, e6, g7, H⟩ := H
    refine e_al (n := k5) (w := .int (gI h 421 k5)) (pc' := 22) i147_21 rfl (x_alE (a := 20) (by decide) hw.1 sh421 (by decide) e6 g7 (by decide)) (x_clE e6 g7 (by decide)) rfl ?_
    refine e_cn (pc' := 23) i147_22 rfl ?_
    refine e_ib (z := (gI h 421 k5) / 5) (pc' := 24) i147_23 rfl (x_ib_div (by decide)) ?_
    refine e_st (ls' := [some (.ref 397), some (.int x), some (.int r2), some (.int ((gI h 421 k5) / 5)), none, none, none]) (pc' := 25) i147_24 rfl rfl rfl ?_
    refine e_ld (pc' := 26) i147_25 rfl rfl ?_
    refine e_get (w := .ref 421) (pc' := 29) i147_26 rfl (x_isC (by decide) hw.1 sh397) (x_fvR (by decide +kernel) (hw.2 397 25 421 lk397_25)) ?_
    refine e_ld (pc' := 30) i147_29 rfl rfl ?_
    refine e_al (n := k5) (w := .int (gI h 421 k5)) (pc' := 31) i147_30 rfl (x_alE (a := 20) (by decide) hw.1 sh421 (by decide) e6 g7 (by decide)) (x_clE e6 g7 (by decide)) rfl ?_
    refine e_cn (pc' := 32) i147_31 rfl ?_
    refine e_ib (z := (gI h 421 k5) - (gI h 421 k5) / 5 * 5) (pc' := 33) i147_32 rfl (x_ib_rem (by decide)) ?_
    refine e_reg (pc' := 41) (ls' := [some (.ref 397), some (.int x), some (.int r2), some (.int ((gI h 421 k5) / 5)), none, none, none]) (st' := [.int (b2i (if ((gI h 421 k5) - (gI h 421 k5) / 5 * 5) = 0 then (true) else (false)))]) (fun kj8 => ?_) ?_
    · skip
      refine e_if (pc' := 36) i147_33 rfl (fun c9 => ?_) (fun c9 => ?_)
      · have d10 : ¬ (((gI h 421 k5) - (gI h 421 k5) / 5 * 5) = 0) := (of_decide_eq_true c9)
        refine e_cn (pc' := 41) i147_40 rfl ?_
        exact (by simp only [if_neg d10] at kj8 ⊢; exact kj8)
      · have d11 : ((gI h 421 k5) - (gI h 421 k5) / 5 * 5) = 0 := (Decidable.not_not.mp (of_decide_eq_false c9))
        refine e_cn (pc' := 37) i147_36 rfl ?_
        refine e_go i147_37 ?_
        exact (by simp only [if_pos d11] at kj8 ⊢; exact kj8)
    refine e_st (ls' := [some (.ref 397), some (.int x), some (.int r2), some (.int ((gI h 421 k5) / 5)), some (.int (b2i (if ((gI h 421 k5) - (gI h 421 k5) / 5 * 5) = 0 then (true) else (false)))), none, none]) (pc' := 43) i147_41 rfl rfl rfl ?_
    refine e_cn (pc' := 44) i147_43 rfl ?_
    refine e_st (ls' := [some (.ref 397), some (.int x), some (.int r2), some (.int ((gI h 421 k5) / 5)), some (.int (b2i (if ((gI h 421 k5) - (gI h 421 k5) / 5 * 5) = 0 then (true) else (false)))), some (.int 0), none]) (pc' := 46) i147_44 rfl rfl rfl ?_
    exact H
  · have d12 : ¬ (r2 = 0) := (of_decide_eq_false c3)
    replace H := H.2 d12
    refine e_ld (pc' := 11) i147_10 rfl rfl ?_
    refine e_ld (pc' := 12) i147_11 rfl rfl ?_
    obtain ⟨r15, h13, s14, H⟩ := H
    have w17q := HW_sp (show x_okm 124 = true by rfl) s14 hw
    have w17 : HW h13 := w17q.1
    refine e_cI (w := .int r15) (As := [.ref 397, .int r2]) (rest := []) (pc' := 15) i147_12 rfl rfl rfl rfl (by show (Nat.beq (x_kd 124) 0 && x_is 397 _ (MC 124) 0) = true; rw [show x_kd 124 = 0 by decide +kernel, show MC 124 = 11 by decide +kernel, (x_isC (by decide) hw.1 sh397)]; rfl) s14 ?_
    refine e_rt i147_15 rfl ?_
    exact H
set_option maxHeartbeats 8000000 in
set_option maxRecDepth 100000 in
theorem v147_46 {L : Nat} {xs : Nat → Int32} {Q : Option Value → Hp → Prop} {h : Hp} {l1 : Int32} {z2 : Option Value} {l3 : Int32} {l4 : Int32} {l5 : Int32} {z6 : Option Value} (hw : HW h) 
  (H : ((l4 = 0) → (WP L xs 147 182 [some (.ref 397), some (.int l1), z2, some (.int l3), some (.int l4), some (.int l5), some (.int 0)] [] h Q)) ∧ (¬ (l4 = 0) → (((l3 ≤ l5) → (WP L xs 147 182 [some (.ref 397), some (.int l1), z2, some (.int l3), some (.int l4), some (.int l5), some (.int 0)] [] h Q)) ∧ (¬ (l3 ≤ l5) → (∃ (r8 : Int32), Sp L xs 146 [.ref 397, .int l1, .int (5 * l5)] h (some (.int r8)) h ∧ ∃ (r10 : Int32), Sp L xs 146 [.ref 397, .int l1, .int ((5 * l5) + 1)] h (some (.int r10)) h ∧ ∃ (r12 : Int32), Sp L xs 146 [.ref 397, .int l1, .int ((5 * l5) + 2)] h (some (.int r12)) h ∧ ∃ (r14 : Int32), Sp L xs 146 [.ref 397, .int l1, .int ((5 * l5) + 3)] h (some (.int r14)) h ∧ ∃ (r16 : Int32), Sp L xs 146 [.ref 397, .int l1, .int ((5 * l5) + 4)] h (some (.int r16)) h ∧ ∃ (r18 : Int32), Sp L xs 132 [.ref 397, .int r8, .int r10, .int r12, .int r14, .int r16] h (some (.int r18)) h ∧ (((if r18 = 1 then (true) else (false)) = true) → (∃ (r27 : Int32), Sp L xs 146 [.ref 397, .int l1, .int (5 * l5)] h (some (.int r27)) h ∧ ∃ (r29 : Int32), Sp L xs 146 [.ref 397, .int l1, .int ((5 * l5) + 1)] h (some (.int r29)) h ∧ ∃ (r31 : Int32), Sp L xs 146 [.ref 397, .int l1, .int ((5 * l5) + 2)] h (some (.int r31)) h ∧ ∃ (r33 : Int32), Sp L xs 146 [.ref 397, .int l1, .int ((5 * l5) + 3)] h (some (.int r33)) h ∧ ∃ (r35 : Int32), Sp L xs 146 [.ref 397, .int l1, .int ((5 * l5) + 4)] h (some (.int r35)) h ∧ ∃ (h36 : Hp), Sp L xs 133 [.ref 397, .int r27, .int r29, .int r31, .int r33, .int r35] h none h36 ∧ WP L xs 147 46 [some (.ref 397), some (.int l1), z2, some (.int l3), some (.int (b2i (if r18 = 1 then (true) else (false)))), some (.int (l5 + 1)), some (.int (5 * l5))] [] h36 Q)) ∧ (¬ ((if r18 = 1 then (true) else (false)) = true) → (WP L xs 147 46 [some (.ref 397), some (.int l1), z2, some (.int l3), some (.int (b2i (if r18 = 1 then (true) else (false)))), some (.int l5), some (.int (5 * l5))] [] h Q))))))) : WP L xs 147 46 [some (.ref 397), some (.int l1), z2, some (.int l3), some (.int l4), some (.int l5), z6] [] h Q := by
  refine e_ld (pc' := 48) i147_46 rfl rfl ?_
  refine e_if (pc' := 51) i147_48 rfl (fun c1 => ?_) (fun c1 => ?_)
  · have d2 : l4 = 0 := (of_decide_eq_true c1)
    replace H := H.1 d2
    refine e_cn (pc' := 180) i147_179 rfl ?_
    refine e_st (ls' := [some (.ref 397), some (.int l1), z2, some (.int l3), some (.int l4), some (.int l5), some (.int 0)]) (pc' := 182) i147_180 rfl rfl rfl ?_
    exact H
  · have d3 : ¬ (l4 = 0) := (of_decide_eq_false c1)
    replace H := H.2 d3
    refine e_ld (pc' := 53) i147_51 rfl rfl ?_
    refine e_ld (pc' := 54) i147_53 rfl rfl ?_
    refine e_ic (pc' := 57) i147_54 rfl (fun c4 => ?_) (fun c4 => ?_)
    · have d5 : l3 ≤ l5 := (of_decide_eq_true c4)
      replace H := H.1 d5
      refine e_cn (pc' := 180) i147_179 rfl ?_
      refine e_st (ls' := [some (.ref 397), some (.int l1), z2, some (.int l3), some (.int l4), some (.int l5), some (.int 0)]) (pc' := 182) i147_180 rfl rfl rfl ?_
      exact H
    · have d6 : ¬ (l3 ≤ l5) := (of_decide_eq_false c4)
      replace H := H.2 d6
      refine e_cn (pc' := 58) i147_57 rfl ?_
      refine e_ld (pc' := 60) i147_58 rfl rfl ?_
      refine e_ib (z := 5 * l5) (pc' := 61) i147_60 rfl rfl ?_
      refine e_st (ls' := [some (.ref 397), some (.int l1), z2, some (.int l3), some (.int l4), some (.int l5), some (.int (5 * l5))]) (pc' := 63) i147_61 rfl rfl rfl ?_
      refine e_ld (pc' := 64) i147_63 rfl rfl ?_
      refine e_ld (pc' := 65) i147_64 rfl rfl ?_
      refine e_ld (pc' := 66) i147_65 rfl rfl ?_
      refine e_ld (pc' := 68) i147_66 rfl rfl ?_
      obtain ⟨r8, s7, H⟩ := H
      refine e_cI (w := .int r8) (As := [.ref 397, .int l1, .int (5 * l5)]) (rest := [.ref 397]) (pc' := 71) i147_68 rfl rfl rfl rfl (by show (Nat.beq (x_kd 146) 0 && x_is 397 _ (MC 146) 0) = true; rw [show x_kd 146 = 0 by decide +kernel, show MC 146 = 11 by decide +kernel, (x_isC (by decide) hw.1 sh397)]; rfl) s7 ?_
      refine e_ld (pc' := 72) i147_71 rfl rfl ?_
      refine e_ld (pc' := 73) i147_72 rfl rfl ?_
      refine e_ld (pc' := 75) i147_73 rfl rfl ?_
      refine e_cn (pc' := 76) i147_75 rfl ?_
      refine e_ib (z := (5 * l5) + 1) (pc' := 77) i147_76 rfl rfl ?_
      obtain ⟨r10, s9, H⟩ := H
      refine e_cI (w := .int r10) (As := [.ref 397, .int l1, .int ((5 * l5) + 1)]) (rest := [.int r8, .ref 397]) (pc' := 80) i147_77 rfl rfl rfl rfl (by show (Nat.beq (x_kd 146) 0 && x_is 397 _ (MC 146) 0) = true; rw [show x_kd 146 = 0 by decide +kernel, show MC 146 = 11 by decide +kernel, (x_isC (by decide) hw.1 sh397)]; rfl) s9 ?_
      refine e_ld (pc' := 81) i147_80 rfl rfl ?_
      refine e_ld (pc' := 82) i147_81 rfl rfl ?_
      refine e_ld (pc' := 84) i147_82 rfl rfl ?_
      refine e_cn (pc' := 85) i147_84 rfl ?_
      refine e_ib (z := (5 * l5) + 2) (pc' := 86) i147_85 rfl rfl ?_
      obtain ⟨r12, s11, H⟩ := H
      refine e_cI (w := .int r12) (As := [.ref 397, .int l1, .int ((5 * l5) + 2)]) (rest := [.int r10, .int r8, .ref 397]) (pc' := 89) i147_86 rfl rfl rfl rfl (by show (Nat.beq (x_kd 146) 0 && x_is 397 _ (MC 146) 0) = true; rw [show x_kd 146 = 0 by decide +kernel, show MC 146 = 11 by decide +kernel, (x_isC (by decide) hw.1 sh397)]; rfl) s11 ?_
      refine e_ld (pc' := 90) i147_89 rfl rfl ?_
      refine e_ld (pc' := 91) i147_90 rfl rfl ?_
      refine e_ld (pc' := 93) i147_91 rfl rfl ?_
      refine e_cn (pc' := 94) i147_93 rfl ?_
      refine e_ib (z := (5 * l5) + 3) (pc' := 95) i147_94 rfl rfl ?_
      obtain ⟨r14, s13, H⟩ := H
      refine e_cI (w := .int r14) (As := [.ref 397, .int l1, .int ((5 * l5) + 3)]) (rest := [.int r12, .int r10, .int r8, .ref 397]) (pc' := 98) i147_95 rfl rfl rfl rfl (by show (Nat.beq (x_kd 146) 0 && x_is 397 _ (MC 146) 0) = true; rw [show x_kd 146 = 0 by decide +kernel, show MC 146 = 11 by decide +kernel, (x_isC (by decide) hw.1 sh397)]; rfl) s13 ?_
      refine e_ld (pc' := 99) i147_98 rfl rfl ?_
      refine e_ld (pc' := 100) i147_99 rfl rfl ?_
      refine e_ld (pc' := 102) i147_100 rfl rfl ?_
      refine e_cn (pc' := 103) i147_102 rfl ?_
      refine e_ib (z := (5 * l5) + 4) (pc' := 104) i147_103 rfl rfl ?_
      obtain ⟨r16, s15, H⟩ := H
      refine e_cI (w := .int r16) (As := [.ref 397, .int l1, .int ((5 * l5) + 4)]) (rest := [.int r14, .int r12, .int r10, .int r8, .ref 397]) (pc' := 107) i147_104 rfl rfl rfl rfl (by show (Nat.beq (x_kd 146) 0 && x_is 397 _ (MC 146) 0) = true; rw [show x_kd 146 = 0 by decide +kernel, show MC 146 = 11 by decide +kernel, (x_isC (by decide) hw.1 sh397)]; rfl) s15 ?_
      obtain ⟨r18, s17, H⟩ := H
      refine e_cI (w := .int r18) (As := [.ref 397, .int r8, .int r10, .int r12, .int r14, .int r16]) (rest := []) (pc' := 110) i147_107 rfl rfl rfl rfl (by show (Nat.beq (x_kd 132) 0 && x_is 397 _ (MC 132) 0) = true; rw [show x_kd 132 = 0 by decide +kernel, show MC 132 = 11 by decide +kernel, (x_isC (by decide) hw.1 sh397)]; rfl) s17 ?_
      refine e_cn (pc' := 111) i147_110 rfl ?_
      refine e_reg (pc' := 119) (ls' := [some (.ref 397), some (.int l1), z2, some (.int l3), some (.int l4), some (.int l5), some (.int (5 * l5))]) (st' := [.int (b2i (if r18 = 1 then (true) else (false)))]) (fun kj19 => ?_) ?_
      · skip
        refine e_ic (pc' := 114) i147_111 rfl (fun c20 => ?_) (fun c20 => ?_)
        · have d21 : ¬ (r18 = 1) := (of_decide_eq_true c20)
          refine e_cn (pc' := 119) i147_118 rfl ?_
          exact (by simp only [if_neg d21] at kj19 ⊢; exact kj19)
        · have d22 : r18 = 1 := (Decidable.not_not.mp (of_decide_eq_false c20))
          refine e_cn (pc' := 115) i147_114 rfl ?_
          refine e_go i147_115 ?_
          exact (by simp only [if_pos d22] at kj19 ⊢; exact kj19)
      refine e_st (ls' := [some (.ref 397), some (.int l1), z2, some (.int l3), some (.int (b2i (if r18 = 1 then (true) else (false)))), some (.int l5), some (.int (5 * l5))]) (pc' := 121) i147_119 rfl rfl rfl ?_
      refine e_ld (pc' := 123) i147_121 rfl rfl ?_
      refine e_b0 (pc' := 126) i147_123 rfl (fun c23 => ?_) (fun c23 => ?_)
      · have d24 : ¬ ((if r18 = 1 then (true) else (false)) = true) := (show ¬ (if r18 = 1 then (true) else (false)) = true by rw [c23]; decide)
        replace H := H.2 d24
        refine e_go i147_176 ?_
        exact H
      · have d25 : (if r18 = 1 then (true) else (false)) = true := c23
        replace H := H.1 d25
        refine e_ld (pc' := 127) i147_126 rfl rfl ?_
        refine e_ld (pc' := 128) i147_127 rfl rfl ?_
        refine e_ld (pc' := 129) i147_128 rfl rfl ?_
        refine e_ld (pc' := 131) i147_129 rfl rfl ?_
        obtain ⟨r27, s26, H⟩ := H
        refine e_cI (w := .int r27) (As := [.ref 397, .int l1, .int (5 * l5)]) (rest := [.ref 397]) (pc' := 134) i147_131 rfl rfl rfl rfl (by show (Nat.beq (x_kd 146) 0 && x_is 397 _ (MC 146) 0) = true; rw [show x_kd 146 = 0 by decide +kernel, show MC 146 = 11 by decide +kernel, (x_isC (by decide) hw.1 sh397)]; rfl) s26 ?_
        refine e_ld (pc' := 135) i147_134 rfl rfl ?_
        refine e_ld (pc' := 136) i147_135 rfl rfl ?_
        refine e_ld (pc' := 138) i147_136 rfl rfl ?_
        refine e_cn (pc' := 139) i147_138 rfl ?_
        refine e_ib (z := (5 * l5) + 1) (pc' := 140) i147_139 rfl rfl ?_
        obtain ⟨r29, s28, H⟩ := H
        refine e_cI (w := .int r29) (As := [.ref 397, .int l1, .int ((5 * l5) + 1)]) (rest := [.int r27, .ref 397]) (pc' := 143) i147_140 rfl rfl rfl rfl (by show (Nat.beq (x_kd 146) 0 && x_is 397 _ (MC 146) 0) = true; rw [show x_kd 146 = 0 by decide +kernel, show MC 146 = 11 by decide +kernel, (x_isC (by decide) hw.1 sh397)]; rfl) s28 ?_
        refine e_ld (pc' := 144) i147_143 rfl rfl ?_
        refine e_ld (pc' := 145) i147_144 rfl rfl ?_
        refine e_ld (pc' := 147) i147_145 rfl rfl ?_
        refine e_cn (pc' := 148) i147_147 rfl ?_
        refine e_ib (z := (5 * l5) + 2) (pc' := 149) i147_148 rfl rfl ?_
        obtain ⟨r31, s30, H⟩ := H
        refine e_cI (w := .int r31) (As := [.ref 397, .int l1, .int ((5 * l5) + 2)]) (rest := [.int r29, .int r27, .ref 397]) (pc' := 152) i147_149 rfl rfl rfl rfl (by show (Nat.beq (x_kd 146) 0 && x_is 397 _ (MC 146) 0) = true; rw [show x_kd 146 = 0 by decide +kernel, show MC 146 = 11 by decide +kernel, (x_isC (by decide) hw.1 sh397)]; rfl) s30 ?_
        refine e_ld (pc' := 153) i147_152 rfl rfl ?_
        refine e_ld (pc' := 154) i147_153 rfl rfl ?_
        refine e_ld (pc' := 156) i147_154 rfl rfl ?_
        refine e_cn (pc' := 157) i147_156 rfl ?_
        refine e_ib (z := (5 * l5) + 3) (pc' := 158) i147_157 rfl rfl ?_
        obtain ⟨r33, s32, H⟩ := H
        refine e_cI (w := .int r33) (As := [.ref 397, .int l1, .int ((5 * l5) + 3)]) (rest := [.int r31, .int r29, .int r27, .ref 397]) (pc' := 161) i147_158 rfl rfl rfl rfl (by show (Nat.beq (x_kd 146) 0 && x_is 397 _ (MC 146) 0) = true; rw [show x_kd 146 = 0 by decide +kernel, show MC 146 = 11 by decide +kernel, (x_isC (by decide) hw.1 sh397)]; rfl) s32 ?_
        refine e_ld (pc' := 162) i147_161 rfl rfl ?_
        refine e_ld (pc' := 163) i147_162 rfl rfl ?_
        refine e_ld (pc' := 165) i147_163 rfl rfl ?_
        refine e_cn (pc' := 166) i147_165 rfl ?_
        refine e_ib (z := (5 * l5) + 4) (pc' := 167) i147_166 rfl rfl ?_
        obtain ⟨r35, s34, H⟩ := H
        refine e_cI (w := .int r35) (As := [.ref 397, .int l1, .int ((5 * l5) + 4)]) (rest := [.int r33, .int r31, .int r29, .int r27, .ref 397]) (pc' := 170) i147_167 rfl rfl rfl rfl (by show (Nat.beq (x_kd 146) 0 && x_is 397 _ (MC 146) 0) = true; rw [show x_kd 146 = 0 by decide +kernel, show MC 146 = 11 by decide +kernel, (x_isC (by decide) hw.1 sh397)]; rfl) s34 ?_
        obtain ⟨h36, s37, H⟩ := H
        have w39q := HW_sp (show x_okm 133 = true by rfl) s37 hw
        have w39 : HW h36 := w39q.1
        refine e_cV (As := [.ref 397, .int r27, .int r29, .int r31, .int r33, .int r35]) (rest := []) (pc' := 173) i147_170 rfl rfl rfl rfl (by show (Nat.beq (x_kd 133) 0 && x_is 397 _ (MC 133) 0) = true; rw [show x_kd 133 = 0 by decide +kernel, show MC 133 = 11 by decide +kernel, (x_isC (by decide) hw.1 sh397)]; rfl) s37 ?_
        refine e_inc (z := l5 + 1) (ls' := [some (.ref 397), some (.int l1), z2, some (.int l3), some (.int (b2i (if r18 = 1 then (true) else (false)))), some (.int (l5 + 1)), some (.int (5 * l5))]) (pc' := 176) i147_173 rfl rfl rfl rfl ?_
        refine e_go i147_176 ?_
        exact H
set_option maxHeartbeats 8000000 in
set_option maxRecDepth 100000 in
theorem v147_182 {L : Nat} {xs : Nat → Int32} {Q : Option Value → Hp → Prop} {h : Hp} {l1 : Int32} {z2 : Option Value} {l3 : Int32} {l4 : Int32} {l5 : Int32} {l6 : Int32} (hw : HW h) 
  (H : ((l5 ≤ l6) → (((l4 = 0) → (∃ (r7 : Int32) (h5 : Hp), Sp L xs 124 [.ref 397, .int (-6)] h (some (.int r7)) h5 ∧ Q (some (.int r7)) h5)) ∧ (¬ (l4 = 0) → (Q (some (.int l3)) h)))) ∧ (¬ (l5 ≤ l6) → (((l4 = 0) → (∃ (r15 : Int32), Sp L xs 146 [.ref 397, .int l1, .int (5 * l6)] h (some (.int r15)) h ∧ ∃ k16 : Nat, r15 = nI k16 ∧ k16 < 144 ∧ WP L xs 147 182 [some (.ref 397), some (.int l1), z2, some (.int l3), some (.int l4), some (.int l5), some (.int (l6 + 1))] [] (sI h 405 k16 0) Q)) ∧ (¬ (l4 = 0) → (Q (some (.int l3)) h))))) : WP L xs 147 182 [some (.ref 397), some (.int l1), z2, some (.int l3), some (.int l4), some (.int l5), some (.int l6)] [] h Q := by
  refine e_ld (pc' := 184) i147_182 rfl rfl ?_
  refine e_ld (pc' := 186) i147_184 rfl rfl ?_
  refine e_ic (pc' := 189) i147_186 rfl (fun c1 => ?_) (fun c1 => ?_)
  · have d2 : l5 ≤ l6 := (of_decide_eq_true c1)
    replace H := H.1 d2
    refine e_ld (pc' := 217) i147_215 rfl rfl ?_
    refine e_if (pc' := 220) i147_217 rfl (fun c3 => ?_) (fun c3 => ?_)
    · have d4 : l4 = 0 := (of_decide_eq_true c3)
      replace H := H.1 d4
      refine e_ld (pc' := 225) i147_224 rfl rfl ?_
      refine e_cn (pc' := 227) i147_225 rfl ?_
      obtain ⟨r7, h5, s6, H⟩ := H
      have w9q := HW_sp (show x_okm 124 = true by rfl) s6 hw
      have w9 : HW h5 := w9q.1
      refine e_cI (w := .int r7) (As := [.ref 397, .int (-6)]) (rest := []) (pc' := 230) i147_227 rfl rfl rfl rfl (by show (Nat.beq (x_kd 124) 0 && x_is 397 _ (MC 124) 0) = true; rw [show x_kd 124 = 0 by decide +kernel, show MC 124 = 11 by decide +kernel, (x_isC (by decide) hw.1 sh397)]; rfl) s6 ?_
      refine e_rt i147_230 rfl ?_
      exact H
    · have d9 : ¬ (l4 = 0) := (of_decide_eq_false c3)
      replace H := H.2 d9
      refine e_ld (pc' := 221) i147_220 rfl rfl ?_
      refine e_go i147_221 ?_
      refine e_rt i147_230 rfl ?_
      exact H
  · have d10 : ¬ (l5 ≤ l6) := (of_decide_eq_false c1)
    replace H := H.2 d10
    refine e_ld (pc' := 191) i147_189 rfl rfl ?_
    refine e_if (pc' := 194) i147_191 rfl (fun c11 => ?_) (fun c11 => ?_)
    · have d12 : ¬ (l4 = 0) := (of_decide_eq_true c11)
      replace H := H.2 d12
      refine e_ld (pc' := 217) i147_215 rfl rfl ?_
      refine e_ifF (pc' := 220) i147_217 rfl (decide_eq_false d12) ?_
      refine e_ld (pc' := 221) i147_220 rfl rfl ?_
      refine e_go i147_221 ?_
      refine e_rt i147_230 rfl ?_
      exact H
    · have d13 : l4 = 0 := (Decidable.not_not.mp (of_decide_eq_false c11))
      replace H := H.1 d13
      refine e_ld (pc' := 195) i147_194 rfl rfl ?_
      refine e_get (w := .ref 405) (pc' := 198) i147_195 rfl (x_isC (by decide) hw.1 sh397) (x_fvR (by decide +kernel) (hw.2 397 8 405 lk397_8)) ?_
      refine e_ld (pc' := 199) i147_198 rfl rfl ?_
      refine e_ld (pc' := 200) i147_199 rfl rfl ?_
      refine e_cn (pc' := 201) i147_200 rfl ?_
      refine e_ld (pc' := 203) i147_201 rfl rfl ?_
      refine e_ib (z := 5 * l6) (pc' := 204) i147_203 rfl rfl ?_
      obtain ⟨r15, s14, H⟩ := H
      refine e_cI (w := .int r15) (As := [.ref 397, .int l1, .int (5 * l6)]) (rest := [.ref 405]) (pc' := 207) i147_204 rfl rfl rfl rfl (by show (Nat.beq (x_kd 146) 0 && x_is 397 _ (MC 146) 0) = true; rw [show x_kd 146 = 0 by decide +kernel, show MC 146 = 11 by decide +kernel, (x_isC (by decide) hw.1 sh397)]; rfl) s14 ?_
      refine e_cn (pc' := 208) i147_207 rfl ?_
      obtain ⟨k16, e17, g18, H⟩ := H
      refine e_as (n := k16) (h' := sI h 405 k16 0) (pc' := 209) i147_208 rfl (x_alE (a := 20) (by decide) hw.1 sh405 (by decide) e17 g18 (by decide)) (x_clE e17 g18 (by decide)) (by rw [(show (SH 405).1 = 20 by rw [sh405])]; rfl) ?_
      have w20 : HW (sI h 405 k16 0) := HW_sI hw
      refine e_inc (z := l6 + 1) (ls' := [some (.ref 397), some (.int l1), z2, some (.int l3), some (.int l4), some (.int l5), some (.int (l6 + 1))]) (pc' := 212) i147_209 rfl rfl rfl rfl ?_
      refine e_go i147_212 ?_
      exact H
-- FloorTurnModel.take(IIII)I
set_option maxHeartbeats 8000000 in
set_option maxRecDepth 100000 in
theorem v148 {L : Nat} {xs : Nat → Int32} {Q : Option Value → Hp → Prop} {h : Hp} {x : Int32} {y : Int32} {z : Int32} {u : Int32} (hw : HW h) 
  (H : (((x_isShelf x) = true) → ((((x_isCell y) = true) → (((z < 0) → (∃ (r14 : Int32) (h12 : Hp), Sp L xs 124 [.ref 397, .int (-4)] h (some (.int r14)) h12 ∧ Q (some (.int r14)) h12)) ∧ (¬ (z < 0) → (((0 ≤ u) → (((z = 0) → (∃ (r23 : Int32) (h21 : Hp), Sp L xs 124 [.ref 397, .int (-6)] h (some (.int r23)) h21 ∧ Q (some (.int r23)) h21)) ∧ (¬ (z = 0) → (((u = 0) → (∃ (r30 : Int32) (h28 : Hp), Sp L xs 124 [.ref 397, .int (-6)] h (some (.int r30)) h28 ∧ Q (some (.int r30)) h28)) ∧ (¬ (u = 0) → ((((12 - (y - y / 12 * 12)) < z) → (∃ (r37 : Int32) (h35 : Hp), Sp L xs 124 [.ref 397, .int (-6)] h (some (.int r37)) h35 ∧ Q (some (.int r37)) h35)) ∧ (¬ ((12 - (y - y / 12 * 12)) < z) → (((u ≤ (12 - (y / 12))) → (∃ k42 : Nat, x = nI k42 ∧ k42 < 8 ∧ WP L xs 148 100 [some (.ref 397), some (.int x), some (.int y), some (.int z), some (.int u), some (.int 0), none, none] [] (sI (sI (sI h 420 k42 0) 424 k42 z) 425 k42 u) Q)) ∧ (¬ (u ≤ (12 - (y / 12))) → (∃ (r51 : Int32) (h49 : Hp), Sp L xs 124 [.ref 397, .int (-6)] h (some (.int r51)) h49 ∧ Q (some (.int r51)) h49)))))))))) ∧ (¬ (0 ≤ u) → (∃ (r56 : Int32) (h54 : Hp), Sp L xs 124 [.ref 397, .int (-4)] h (some (.int r56)) h54 ∧ Q (some (.int r56)) h54)))))) ∧ (¬ ((x_isCell y) = true) → (∃ (r61 : Int32) (h59 : Hp), Sp L xs 124 [.ref 397, .int (-1)] h (some (.int r61)) h59 ∧ Q (some (.int r61)) h59)))) ∧ (¬ ((x_isShelf x) = true) → (∃ (r5 : Int32) (h3 : Hp), Sp L xs 124 [.ref 397, .int (-1)] h (some (.int r5)) h3 ∧ Q (some (.int r5)) h3))) : ∃ r h', Sp L xs 148 [.ref 397, .int x, .int y, .int z, .int u] h r h' ∧ Q r h' := by
  refine sp_ex (ls := [some (.ref 397), some (.int x), some (.int y), some (.int z), some (.int u), none, none, none]) rfl ?_
  refine e_ld (pc' := 1) i148_0 rfl rfl ?_
  refine e_cI (w := .int (b2i (x_isShelf x))) (As := [.int x]) (rest := []) (pc' := 4) i148_1 rfl rfl rfl rfl rfl m136 ?_
  refine e_b0 (pc' := 7) i148_4 rfl (fun c1 => ?_) (fun c1 => ?_)
  · have d2 : ¬ ((x_isShelf x) = true) := (show ¬ (x_isShelf x) = true by rw [c1]; decide)
    replace H := H.2 d2
    refine e_ld (pc' := 15) i148_14 rfl rfl ?_
    refine e_cn (pc' := 16) i148_15 rfl ?_
    obtain ⟨r5, h3, s4, H⟩ := H
    have w7q := HW_sp (show x_okm 124 = true by rfl) s4 hw
    have w7 : HW h3 := w7q.1
    refine e_cI (w := .int r5) (As := [.ref 397, .int (-1)]) (rest := []) (pc' := 19) i148_16 rfl rfl rfl rfl (by show (Nat.beq (x_kd 124) 0 && x_is 397 _ (MC 124) 0) = true; rw [show x_kd 124 = 0 by decide +kernel, show MC 124 = 11 by decide +kernel, (x_isC (by decide) hw.1 sh397)]; rfl) s4 ?_
    refine e_rt i148_19 rfl ?_
    exact H
  · have d7 : (x_isShelf x) = true := c1
    replace H := H.1 d7
    refine e_ld (pc' := 8) i148_7 rfl rfl ?_
    refine e_cI (w := .int (b2i (x_isCell y))) (As := [.int y]) (rest := []) (pc' := 11) i148_8 rfl rfl rfl rfl rfl m125 ?_
    refine e_b1 (pc' := 14) i148_11 rfl (fun c8 => ?_) (fun c8 => ?_)
    · have d9 : (x_isCell y) = true := c8
      replace H := H.1 d9
      refine e_ld (pc' := 21) i148_20 rfl rfl ?_
      refine e_if (pc' := 24) i148_21 rfl (fun c10 => ?_) (fun c10 => ?_)
      · have d11 : z < 0 := (of_decide_eq_true c10)
        replace H := H.1 d11
        refine e_ld (pc' := 30) i148_29 rfl rfl ?_
        refine e_cn (pc' := 32) i148_30 rfl ?_
        obtain ⟨r14, h12, s13, H⟩ := H
        have w16q := HW_sp (show x_okm 124 = true by rfl) s13 hw
        have w16 : HW h12 := w16q.1
        refine e_cI (w := .int r14) (As := [.ref 397, .int (-4)]) (rest := []) (pc' := 35) i148_32 rfl rfl rfl rfl (by show (Nat.beq (x_kd 124) 0 && x_is 397 _ (MC 124) 0) = true; rw [show x_kd 124 = 0 by decide +kernel, show MC 124 = 11 by decide +kernel, (x_isC (by decide) hw.1 sh397)]; rfl) s13 ?_
        refine e_rt i148_35 rfl ?_
        exact H
      · have d16 : ¬ (z < 0) := (of_decide_eq_false c10)
        replace H := H.2 d16
        refine e_ld (pc' := 26) i148_24 rfl rfl ?_
        refine e_if (pc' := 29) i148_26 rfl (fun c17 => ?_) (fun c17 => ?_)
        · have d18 : 0 ≤ u := (of_decide_eq_true c17)
          replace H := H.1 d18
          refine e_ld (pc' := 37) i148_36 rfl rfl ?_
          refine e_if (pc' := 40) i148_37 rfl (fun c19 => ?_) (fun c19 => ?_)
          · have d20 : z = 0 := (of_decide_eq_true c19)
            replace H := H.1 d20
            refine e_ld (pc' := 69) i148_68 rfl rfl ?_
            refine e_cn (pc' := 71) i148_69 rfl ?_
            obtain ⟨r23, h21, s22, H⟩ := H
            have w25q := HW_sp (show x_okm 124 = true by rfl) s22 hw
            have w25 : HW h21 := w25q.1
            refine e_cI (w := .int r23) (As := [.ref 397, .int (-6)]) (rest := []) (pc' := 74) i148_71 rfl rfl rfl rfl (by show (Nat.beq (x_kd 124) 0 && x_is 397 _ (MC 124) 0) = true; rw [show x_kd 124 = 0 by decide +kernel, show MC 124 = 11 by decide +kernel, (x_isC (by decide) hw.1 sh397)]; rfl) s22 ?_
            refine e_rt i148_74 rfl ?_
            exact H
          · have d25 : ¬ (z = 0) := (of_decide_eq_false c19)
            replace H := H.2 d25
            refine e_ld (pc' := 42) i148_40 rfl rfl ?_
            refine e_if (pc' := 45) i148_42 rfl (fun c26 => ?_) (fun c26 => ?_)
            · have d27 : u = 0 := (of_decide_eq_true c26)
              replace H := H.1 d27
              refine e_ld (pc' := 69) i148_68 rfl rfl ?_
              refine e_cn (pc' := 71) i148_69 rfl ?_
              obtain ⟨r30, h28, s29, H⟩ := H
              have w32q := HW_sp (show x_okm 124 = true by rfl) s29 hw
              have w32 : HW h28 := w32q.1
              refine e_cI (w := .int r30) (As := [.ref 397, .int (-6)]) (rest := []) (pc' := 74) i148_71 rfl rfl rfl rfl (by show (Nat.beq (x_kd 124) 0 && x_is 397 _ (MC 124) 0) = true; rw [show x_kd 124 = 0 by decide +kernel, show MC 124 = 11 by decide +kernel, (x_isC (by decide) hw.1 sh397)]; rfl) s29 ?_
              refine e_rt i148_74 rfl ?_
              exact H
            · have d32 : ¬ (u = 0) := (of_decide_eq_false c26)
              replace H := H.2 d32
              refine e_ld (pc' := 46) i148_45 rfl rfl ?_
              refine e_cn (pc' := 48) i148_46 rfl ?_
              refine e_ld (pc' := 49) i148_48 rfl rfl ?_
              refine e_cn (pc' := 51) i148_49 rfl ?_
              refine e_ib (z := y - y / 12 * 12) (pc' := 52) i148_51 rfl (x_ib_rem (by decide)) ?_
              refine e_ib (z := 12 - (y - y / 12 * 12)) (pc' := 53) i148_52 rfl rfl ?_
              refine e_ic (pc' := 56) i148_53 rfl (fun c33 => ?_) (fun c33 => ?_)
              · have d34 : (12 - (y - y / 12 * 12)) < z := (of_decide_eq_true c33)
                replace H := H.1 d34
                refine e_ld (pc' := 69) i148_68 rfl rfl ?_
                refine e_cn (pc' := 71) i148_69 rfl ?_
                obtain ⟨r37, h35, s36, H⟩ := H
                have w39q := HW_sp (show x_okm 124 = true by rfl) s36 hw
                have w39 : HW h35 := w39q.1
                refine e_cI (w := .int r37) (As := [.ref 397, .int (-6)]) (rest := []) (pc' := 74) i148_71 rfl rfl rfl rfl (by show (Nat.beq (x_kd 124) 0 && x_is 397 _ (MC 124) 0) = true; rw [show x_kd 124 = 0 by decide +kernel, show MC 124 = 11 by decide +kernel, (x_isC (by decide) hw.1 sh397)]; rfl) s36 ?_
                refine e_rt i148_74 rfl ?_
                exact H
              · have d39 : ¬ ((12 - (y - y / 12 * 12)) < z) := (of_decide_eq_false c33)
                replace H := H.2 d39
                refine e_ld (pc' := 58) i148_56 rfl rfl ?_
                refine e_cn (pc' := 60) i148_58 rfl ?_
                refine e_ld (pc' := 61) i148_60 rfl rfl ?_
                refine e_cn (pc' := 63) i148_61 rfl ?_
                refine e_ib (z := y / 12) (pc' := 64) i148_63 rfl (x_ib_div (by decide)) ?_
                refine e_ib (z := 12 - (y / 12)) (pc' := 65) i148_64 rfl rfl ?_
                refine e_ic (pc' := 68) i148_65 rfl (fun c40 => ?_) (fun c40 => ?_)
                · have d41 : u ≤ (12 - (y / 12)) := (of_decide_eq_true c40)
                  replace H := H.1 d41
                  refine e_ld (pc' := 76) i148_75 rfl rfl ?_
                  refine e_get (w := .ref 420) (pc' := 79) i148_76 rfl (x_isC (by decide) hw.1 sh397) (x_fvR (by decide +kernel) (hw.2 397 24 420 lk397_24)) ?_
                  refine e_ld (pc' := 80) i148_79 rfl rfl ?_
                  refine e_cn (pc' := 81) i148_80 rfl ?_
                  obtain ⟨k42, e43, g44, H⟩ := H
                  refine e_as (n := k42) (h' := sI h 420 k42 0) (pc' := 82) i148_81 rfl (x_alE (a := 20) (by decide) hw.1 sh420 (by decide) e43 g44 (by decide)) (x_clE e43 g44 (by decide)) (by rw [(show (SH 420).1 = 20 by rw [sh420])]; rfl) ?_
                  have w46 : HW (sI h 420 k42 0) := HW_sI hw
                  refine e_ld (pc' := 83) i148_82 rfl rfl ?_
                  refine e_get (w := .ref 424) (pc' := 86) i148_83 rfl (x_isC (by decide) w46.1 sh397) (x_fvR (by decide +kernel) (w46.2 397 28 424 lk397_28)) ?_
                  refine e_ld (pc' := 87) i148_86 rfl rfl ?_
                  refine e_ld (pc' := 88) i148_87 rfl rfl ?_
                  refine e_as (n := k42) (h' := sI (sI h 420 k42 0) 424 k42 z) (pc' := 89) i148_88 rfl (x_alE (a := 20) (by decide) w46.1 sh424 (by decide) e43 g44 (by decide)) (x_clE e43 g44 (by decide)) (by rw [(show (SH 424).1 = 20 by rw [sh424])]; rfl) ?_
                  have w48 : HW (sI (sI h 420 k42 0) 424 k42 z) := HW_sI w46
                  refine e_ld (pc' := 90) i148_89 rfl rfl ?_
                  refine e_get (w := .ref 425) (pc' := 93) i148_90 rfl (x_isC (by decide) w48.1 sh397) (x_fvR (by decide +kernel) (w48.2 397 29 425 lk397_29)) ?_
                  refine e_ld (pc' := 94) i148_93 rfl rfl ?_
                  refine e_ld (pc' := 96) i148_94 rfl rfl ?_
                  refine e_as (n := k42) (h' := sI (sI (sI h 420 k42 0) 424 k42 z) 425 k42 u) (pc' := 97) i148_96 rfl (x_alE (a := 20) (by decide) w48.1 sh425 (by decide) e43 g44 (by decide)) (x_clE e43 g44 (by decide)) (by rw [(show (SH 425).1 = 20 by rw [sh425])]; rfl) ?_
                  have w50 : HW (sI (sI (sI h 420 k42 0) 424 k42 z) 425 k42 u) := HW_sI w48
                  refine e_cn (pc' := 98) i148_97 rfl ?_
                  refine e_st (ls' := [some (.ref 397), some (.int x), some (.int y), some (.int z), some (.int u), some (.int 0), none, none]) (pc' := 100) i148_98 rfl rfl rfl ?_
                  exact H
                · have d48 : ¬ (u ≤ (12 - (y / 12))) := (of_decide_eq_false c40)
                  replace H := H.2 d48
                  refine e_ld (pc' := 69) i148_68 rfl rfl ?_
                  refine e_cn (pc' := 71) i148_69 rfl ?_
                  obtain ⟨r51, h49, s50, H⟩ := H
                  have w53q := HW_sp (show x_okm 124 = true by rfl) s50 hw
                  have w53 : HW h49 := w53q.1
                  refine e_cI (w := .int r51) (As := [.ref 397, .int (-6)]) (rest := []) (pc' := 74) i148_71 rfl rfl rfl rfl (by show (Nat.beq (x_kd 124) 0 && x_is 397 _ (MC 124) 0) = true; rw [show x_kd 124 = 0 by decide +kernel, show MC 124 = 11 by decide +kernel, (x_isC (by decide) hw.1 sh397)]; rfl) s50 ?_
                  refine e_rt i148_74 rfl ?_
                  exact H
        · have d53 : ¬ (0 ≤ u) := (of_decide_eq_false c17)
          replace H := H.2 d53
          refine e_ld (pc' := 30) i148_29 rfl rfl ?_
          refine e_cn (pc' := 32) i148_30 rfl ?_
          obtain ⟨r56, h54, s55, H⟩ := H
          have w58q := HW_sp (show x_okm 124 = true by rfl) s55 hw
          have w58 : HW h54 := w58q.1
          refine e_cI (w := .int r56) (As := [.ref 397, .int (-4)]) (rest := []) (pc' := 35) i148_32 rfl rfl rfl rfl (by show (Nat.beq (x_kd 124) 0 && x_is 397 _ (MC 124) 0) = true; rw [show x_kd 124 = 0 by decide +kernel, show MC 124 = 11 by decide +kernel, (x_isC (by decide) hw.1 sh397)]; rfl) s55 ?_
          refine e_rt i148_35 rfl ?_
          exact H
    · have d58 : ¬ ((x_isCell y) = true) := (show ¬ (x_isCell y) = true by rw [c8]; decide)
      replace H := H.2 d58
      refine e_ld (pc' := 15) i148_14 rfl rfl ?_
      refine e_cn (pc' := 16) i148_15 rfl ?_
      obtain ⟨r61, h59, s60, H⟩ := H
      have w63q := HW_sp (show x_okm 124 = true by rfl) s60 hw
      have w63 : HW h59 := w63q.1
      refine e_cI (w := .int r61) (As := [.ref 397, .int (-1)]) (rest := []) (pc' := 19) i148_16 rfl rfl rfl rfl (by show (Nat.beq (x_kd 124) 0 && x_is 397 _ (MC 124) 0) = true; rw [show x_kd 124 = 0 by decide +kernel, show MC 124 = 11 by decide +kernel, (x_isC (by decide) hw.1 sh397)]; rfl) s60 ?_
      refine e_rt i148_19 rfl ?_
      exact H
set_option maxHeartbeats 8000000 in
set_option maxRecDepth 100000 in
theorem v148_100 {L : Nat} {xs : Nat → Int32} {Q : Option Value → Hp → Prop} {h : Hp} {l1 : Int32} {l2 : Int32} {l3 : Int32} {l4 : Int32} {l5 : Int32} {z6 : Option Value} {z7 : Option Value} (hw : HW h) 
  (H : (((l3 * l4) ≤ l5) → (∃ (r4 : Int32), Sp L xs 149 [.ref 397, .int l1] h (some (.int r4)) h ∧ Q (some (.int r4)) h)) ∧ (¬ ((l3 * l4) ≤ l5) → ((¬ l3 = 0) ∧ (¬ l3 = 0) ∧ ∃ k8 : Nat, ((l2 + (12 * (l5 / l3))) + (l5 - l5 / l3 * l3)) = nI k8 ∧ k8 < 144 ∧ ∃ k11 : Nat, ((576 * l1) + (4 * l5)) = nI k11 ∧ k11 < 4608 ∧ ∃ k15 : Nat, (((576 * l1) + (4 * l5)) + 1) = nI k15 ∧ k15 < 4608 ∧ ∃ k19 : Nat, (((576 * l1) + (4 * l5)) + 2) = nI k19 ∧ k19 < 4608 ∧ ∃ k23 : Nat, (((576 * l1) + (4 * l5)) + 3) = nI k23 ∧ k23 < 4608 ∧ WP L xs 148 100 [some (.ref 397), some (.int l1), some (.int l2), some (.int l3), some (.int l4), some (.int (l5 + 1)), some (.int ((l2 + (12 * (l5 / l3))) + (l5 - l5 / l3 * l3))), some (.int ((576 * l1) + (4 * l5)))] [] (sI (sI (sI (sI h 426 k11 (gI h 405 k8)) 426 k15 (gI h 406 k8)) 426 k19 (gI h 407 k8)) 426 k23 (gI h 408 k8)) Q))) : WP L xs 148 100 [some (.ref 397), some (.int l1), some (.int l2), some (.int l3), some (.int l4), some (.int l5), z6, z7] [] h Q := by
  refine e_ld (pc' := 102) i148_100 rfl rfl ?_
  refine e_ld (pc' := 103) i148_102 rfl rfl ?_
  refine e_ld (pc' := 105) i148_103 rfl rfl ?_
  refine e_ib (z := l3 * l4) (pc' := 106) i148_105 rfl rfl ?_
  refine e_ic (pc' := 109) i148_106 rfl (fun c1 => ?_) (fun c1 => ?_)
  · have d2 : (l3 * l4) ≤ l5 := (of_decide_eq_true c1)
    replace H := H.1 d2
    refine e_ld (pc' := 206) i148_205 rfl rfl ?_
    refine e_ld (pc' := 207) i148_206 rfl rfl ?_
    obtain ⟨r4, s3, H⟩ := H
    refine e_cI (w := .int r4) (As := [.ref 397, .int l1]) (rest := []) (pc' := 210) i148_207 rfl rfl rfl rfl (by show (Nat.beq (x_kd 149) 0 && x_is 397 _ (MC 149) 0) = true; rw [show x_kd 149 = 0 by decide +kernel, show MC 149 = 11 by decide +kernel, (x_isC (by decide) hw.1 sh397)]; rfl) s3 ?_
    refine e_rt i148_210 rfl ?_
    exact H
  · have d5 : ¬ ((l3 * l4) ≤ l5) := (of_decide_eq_false c1)
    replace H := H.2 d5
    refine e_ld (pc' := 110) i148_109 rfl rfl ?_
    refine e_cn (pc' := 112) i148_110 rfl ?_
    refine e_ld (pc' := 114) i148_112 rfl rfl ?_
    refine e_ld (pc' := 115) i148_114 rfl rfl ?_
    obtain ⟨g6, H⟩ := H
    refine e_ib (z := l5 / l3) (pc' := 116) i148_115 rfl (x_ib_div g6) ?_
    refine e_ib (z := 12 * (l5 / l3)) (pc' := 117) i148_116 rfl rfl ?_
    refine e_ib (z := l2 + (12 * (l5 / l3))) (pc' := 118) i148_117 rfl rfl ?_
    refine e_ld (pc' := 120) i148_118 rfl rfl ?_
    refine e_ld (pc' := 121) i148_120 rfl rfl ?_
    obtain ⟨g7, H⟩ := H
    refine e_ib (z := l5 - l5 / l3 * l3) (pc' := 122) i148_121 rfl (x_ib_rem g7) ?_
    refine e_ib (z := (l2 + (12 * (l5 / l3))) + (l5 - l5 / l3 * l3)) (pc' := 123) i148_122 rfl rfl ?_
    refine e_st (ls' := [some (.ref 397), some (.int l1), some (.int l2), some (.int l3), some (.int l4), some (.int l5), some (.int ((l2 + (12 * (l5 / l3))) + (l5 - l5 / l3 * l3))), z7]) (pc' := 125) i148_123 rfl rfl rfl ?_
    refine e_cn (pc' := 128) i148_125 rfl ?_
    refine e_ld (pc' := 129) i148_128 rfl rfl ?_
    refine e_ib (z := 576 * l1) (pc' := 130) i148_129 rfl rfl ?_
    refine e_cn (pc' := 131) i148_130 rfl ?_
    refine e_ld (pc' := 133) i148_131 rfl rfl ?_
    refine e_ib (z := 4 * l5) (pc' := 134) i148_133 rfl rfl ?_
    refine e_ib (z := (576 * l1) + (4 * l5)) (pc' := 135) i148_134 rfl rfl ?_
    refine e_st (ls' := [some (.ref 397), some (.int l1), some (.int l2), some (.int l3), some (.int l4), some (.int l5), some (.int ((l2 + (12 * (l5 / l3))) + (l5 - l5 / l3 * l3))), some (.int ((576 * l1) + (4 * l5)))]) (pc' := 137) i148_135 rfl rfl rfl ?_
    refine e_ld (pc' := 138) i148_137 rfl rfl ?_
    refine e_get (w := .ref 426) (pc' := 141) i148_138 rfl (x_isC (by decide) hw.1 sh397) (x_fvR (by decide +kernel) (hw.2 397 30 426 lk397_30)) ?_
    refine e_ld (pc' := 143) i148_141 rfl rfl ?_
    refine e_ld (pc' := 144) i148_143 rfl rfl ?_
    refine e_get (w := .ref 405) (pc' := 147) i148_144 rfl (x_isC (by decide) hw.1 sh397) (x_fvR (by decide +kernel) (hw.2 397 8 405 lk397_8)) ?_
    refine e_ld (pc' := 149) i148_147 rfl rfl ?_
    obtain ⟨k8, e9, g10, H⟩ := H
    refine e_al (n := k8) (w := .int (gI h 405 k8)) (pc' := 150) i148_149 rfl (x_alE (a := 20) (by decide) hw.1 sh405 (by decide) e9 g10 (by decide)) (x_clE e9 g10 (by decide)) rfl ?_
    obtain ⟨k11, e12, g13, H⟩ := H
    refine e_as (n := k11) (h' := sI h 426 k11 (gI h 405 k8)) (pc' := 151) i148_150 rfl (x_alE (a := 20) (by decide) hw.1 sh426 (by decide) e12 g13 (by decide)) (x_clE e12 g13 (by decide)) (by rw [(show (SH 426).1 = 20 by rw [sh426])]; rfl) ?_
    have w15 : HW (sI h 426 k11 (gI h 405 k8)) := HW_sI hw
    refine e_ld (pc' := 152) i148_151 rfl rfl ?_
    refine e_get (w := .ref 426) (pc' := 155) i148_152 rfl (x_isC (by decide) w15.1 sh397) (x_fvR (by decide +kernel) (w15.2 397 30 426 lk397_30)) ?_
    refine e_ld (pc' := 157) i148_155 rfl rfl ?_
    refine e_cn (pc' := 158) i148_157 rfl ?_
    refine e_ib (z := ((576 * l1) + (4 * l5)) + 1) (pc' := 159) i148_158 rfl rfl ?_
    refine e_ld (pc' := 160) i148_159 rfl rfl ?_
    refine e_get (w := .ref 406) (pc' := 163) i148_160 rfl (x_isC (by decide) w15.1 sh397) (x_fvR (by decide +kernel) (w15.2 397 9 406 lk397_9)) ?_
    refine e_ld (pc' := 165) i148_163 rfl rfl ?_
    refine e_al (n := k8) (w := .int (gI h 406 k8)) (pc' := 166) i148_165 rfl (x_alE (a := 20) (by decide) w15.1 sh406 (by decide) e9 g10 (by decide)) (x_clE e9 g10 (by decide)) (congrArg Value.int (gI_osI (by decide))) ?_
    obtain ⟨k15, e16, g17, H⟩ := H
    refine e_as (n := k15) (h' := sI (sI h 426 k11 (gI h 405 k8)) 426 k15 (gI h 406 k8)) (pc' := 167) i148_166 rfl (x_alE (a := 20) (by decide) w15.1 sh426 (by decide) e16 g17 (by decide)) (x_clE e16 g17 (by decide)) (by rw [(show (SH 426).1 = 20 by rw [sh426])]; rfl) ?_
    have w20 : HW (sI (sI h 426 k11 (gI h 405 k8)) 426 k15 (gI h 406 k8)) := HW_sI w15
    refine e_ld (pc' := 168) i148_167 rfl rfl ?_
    refine e_get (w := .ref 426) (pc' := 171) i148_168 rfl (x_isC (by decide) w20.1 sh397) (x_fvR (by decide +kernel) (w20.2 397 30 426 lk397_30)) ?_
    refine e_ld (pc' := 173) i148_171 rfl rfl ?_
    refine e_cn (pc' := 174) i148_173 rfl ?_
    refine e_ib (z := ((576 * l1) + (4 * l5)) + 2) (pc' := 175) i148_174 rfl rfl ?_
    refine e_ld (pc' := 176) i148_175 rfl rfl ?_
    refine e_get (w := .ref 407) (pc' := 179) i148_176 rfl (x_isC (by decide) w20.1 sh397) (x_fvR (by decide +kernel) (w20.2 397 10 407 lk397_10)) ?_
    refine e_ld (pc' := 181) i148_179 rfl rfl ?_
    refine e_al (n := k8) (w := .int (gI h 407 k8)) (pc' := 182) i148_181 rfl (x_alE (a := 20) (by decide) w20.1 sh407 (by decide) e9 g10 (by decide)) (x_clE e9 g10 (by decide)) (congrArg Value.int (Eq.trans (gI_osI (by decide)) (gI_osI (by decide)))) ?_
    obtain ⟨k19, e20, g21, H⟩ := H
    refine e_as (n := k19) (h' := sI (sI (sI h 426 k11 (gI h 405 k8)) 426 k15 (gI h 406 k8)) 426 k19 (gI h 407 k8)) (pc' := 183) i148_182 rfl (x_alE (a := 20) (by decide) w20.1 sh426 (by decide) e20 g21 (by decide)) (x_clE e20 g21 (by decide)) (by rw [(show (SH 426).1 = 20 by rw [sh426])]; rfl) ?_
    have w25 : HW (sI (sI (sI h 426 k11 (gI h 405 k8)) 426 k15 (gI h 406 k8)) 426 k19 (gI h 407 k8)) := HW_sI w20
    refine e_ld (pc' := 184) i148_183 rfl rfl ?_
    refine e_get (w := .ref 426) (pc' := 187) i148_184 rfl (x_isC (by decide) w25.1 sh397) (x_fvR (by decide +kernel) (w25.2 397 30 426 lk397_30)) ?_
    refine e_ld (pc' := 189) i148_187 rfl rfl ?_
    refine e_cn (pc' := 190) i148_189 rfl ?_
    refine e_ib (z := ((576 * l1) + (4 * l5)) + 3) (pc' := 191) i148_190 rfl rfl ?_
    refine e_ld (pc' := 192) i148_191 rfl rfl ?_
    refine e_get (w := .ref 408) (pc' := 195) i148_192 rfl (x_isC (by decide) w25.1 sh397) (x_fvR (by decide +kernel) (w25.2 397 11 408 lk397_11)) ?_
    refine e_ld (pc' := 197) i148_195 rfl rfl ?_
    refine e_al (n := k8) (w := .int (gI h 408 k8)) (pc' := 198) i148_197 rfl (x_alE (a := 20) (by decide) w25.1 sh408 (by decide) e9 g10 (by decide)) (x_clE e9 g10 (by decide)) (congrArg Value.int (Eq.trans (gI_osI (by decide)) (Eq.trans (gI_osI (by decide)) (gI_osI (by decide))))) ?_
    obtain ⟨k23, e24, g25, H⟩ := H
    refine e_as (n := k23) (h' := sI (sI (sI (sI h 426 k11 (gI h 405 k8)) 426 k15 (gI h 406 k8)) 426 k19 (gI h 407 k8)) 426 k23 (gI h 408 k8)) (pc' := 199) i148_198 rfl (x_alE (a := 20) (by decide) w25.1 sh426 (by decide) e24 g25 (by decide)) (x_clE e24 g25 (by decide)) (by rw [(show (SH 426).1 = 20 by rw [sh426])]; rfl) ?_
    have w30 : HW (sI (sI (sI (sI h 426 k11 (gI h 405 k8)) 426 k15 (gI h 406 k8)) 426 k19 (gI h 407 k8)) 426 k23 (gI h 408 k8)) := HW_sI w25
    refine e_inc (z := l5 + 1) (ls' := [some (.ref 397), some (.int l1), some (.int l2), some (.int l3), some (.int l4), some (.int (l5 + 1)), some (.int ((l2 + (12 * (l5 / l3))) + (l5 - l5 / l3 * l3))), some (.int ((576 * l1) + (4 * l5)))]) (pc' := 202) i148_199 rfl rfl rfl rfl ?_
    refine e_go i148_202 ?_
    exact H
-- FloorTurnModel.parts(I)I
set_option maxHeartbeats 8000000 in
set_option maxRecDepth 100000 in
theorem v149 {L : Nat} {xs : Nat → Int32} {Q : Option Value → Hp → Prop} {h : Hp} {x : Int32} (hw : HW h) 
  (H : WP L xs 149 4 [some (.ref 397), some (.int x), some (.int 0), some (.int 0)] [] h Q) : ∃ r h', Sp L xs 149 [.ref 397, .int x] h r h' ∧ Q r h' := by
  refine sp_ex (ls := [some (.ref 397), some (.int x), none, none]) rfl ?_
  refine e_cn (pc' := 1) i149_0 rfl ?_
  refine e_st (ls' := [some (.ref 397), some (.int x), some (.int 0), none]) (pc' := 2) i149_1 rfl rfl rfl ?_
  refine e_cn (pc' := 3) i149_2 rfl ?_
  refine e_st (ls' := [some (.ref 397), some (.int x), some (.int 0), some (.int 0)]) (pc' := 4) i149_3 rfl rfl rfl ?_
  exact H
set_option maxHeartbeats 8000000 in
set_option maxRecDepth 100000 in
theorem v149_4 {L : Nat} {xs : Nat → Int32} {Q : Option Value → Hp → Prop} {h : Hp} {l1 : Int32} {l2 : Int32} {l3 : Int32} (hw : HW h) 
  (H : ∃ k1 : Nat, l1 = nI k1 ∧ k1 < 8 ∧ ((((gI h 424 k1) * (gI h 425 k1)) ≤ l3) → (Q (some (.int l2)) h)) ∧ (¬ (((gI h 424 k1) * (gI h 425 k1)) ≤ l3) → (∃ k7 : Nat, ((576 * l1) + (4 * l3)) = nI k7 ∧ k7 < 4608 ∧ WP L xs 149 4 [some (.ref 397), some (.int l1), some (.int (l2 + (b2i (if (gI h 426 k7) = 0 then (false) else (true))))), some (.int (l3 + 1))] [] h Q))) : WP L xs 149 4 [some (.ref 397), some (.int l1), some (.int l2), some (.int l3)] [] h Q := by
  refine e_ld (pc' := 5) i149_4 rfl rfl ?_
  refine e_ld (pc' := 6) i149_5 rfl rfl ?_
  refine e_get (w := .ref 424) (pc' := 9) i149_6 rfl (x_isC (by decide) hw.1 sh397) (x_fvR (by decide +kernel) (hw.2 397 28 424 lk397_28)) ?_
  refine e_ld (pc' := 10) i149_9 rfl rfl ?_
  obtain ⟨k1, e2, g3, H⟩ := H
  refine e_al (n := k1) (w := .int (gI h 424 k1)) (pc' := 11) i149_10 rfl (x_alE (a := 20) (by decide) hw.1 sh424 (by decide) e2 g3 (by decide)) (x_clE e2 g3 (by decide)) rfl ?_
  refine e_ld (pc' := 12) i149_11 rfl rfl ?_
  refine e_get (w := .ref 425) (pc' := 15) i149_12 rfl (x_isC (by decide) hw.1 sh397) (x_fvR (by decide +kernel) (hw.2 397 29 425 lk397_29)) ?_
  refine e_ld (pc' := 16) i149_15 rfl rfl ?_
  refine e_al (n := k1) (w := .int (gI h 425 k1)) (pc' := 17) i149_16 rfl (x_alE (a := 20) (by decide) hw.1 sh425 (by decide) e2 g3 (by decide)) (x_clE e2 g3 (by decide)) rfl ?_
  refine e_ib (z := (gI h 424 k1) * (gI h 425 k1)) (pc' := 18) i149_17 rfl rfl ?_
  refine e_ic (pc' := 21) i149_18 rfl (fun c4 => ?_) (fun c4 => ?_)
  · have d5 : ((gI h 424 k1) * (gI h 425 k1)) ≤ l3 := (of_decide_eq_true c4)
    replace H := H.1 d5
    refine e_ld (pc' := 53) i149_52 rfl rfl ?_
    refine e_rt i149_53 rfl ?_
    exact H
  · have d6 : ¬ (((gI h 424 k1) * (gI h 425 k1)) ≤ l3) := (of_decide_eq_false c4)
    replace H := H.2 d6
    refine e_ld (pc' := 22) i149_21 rfl rfl ?_
    refine e_ld (pc' := 23) i149_22 rfl rfl ?_
    refine e_get (w := .ref 426) (pc' := 26) i149_23 rfl (x_isC (by decide) hw.1 sh397) (x_fvR (by decide +kernel) (hw.2 397 30 426 lk397_30)) ?_
    refine e_cn (pc' := 29) i149_26 rfl ?_
    refine e_ld (pc' := 30) i149_29 rfl rfl ?_
    refine e_ib (z := 576 * l1) (pc' := 31) i149_30 rfl rfl ?_
    refine e_cn (pc' := 32) i149_31 rfl ?_
    refine e_ld (pc' := 33) i149_32 rfl rfl ?_
    refine e_ib (z := 4 * l3) (pc' := 34) i149_33 rfl rfl ?_
    refine e_ib (z := (576 * l1) + (4 * l3)) (pc' := 35) i149_34 rfl rfl ?_
    obtain ⟨k7, e8, g9, H⟩ := H
    refine e_al (n := k7) (w := .int (gI h 426 k7)) (pc' := 36) i149_35 rfl (x_alE (a := 20) (by decide) hw.1 sh426 (by decide) e8 g9 (by decide)) (x_clE e8 g9 (by decide)) rfl ?_
    refine e_reg (pc' := 44) (ls' := [some (.ref 397), some (.int l1), some (.int l2), some (.int l3)]) (st' := [.int (b2i (if (gI h 426 k7) = 0 then (false) else (true))), .int l2]) (fun kj10 => ?_) ?_
    · skip
      refine e_if (pc' := 39) i149_36 rfl (fun c11 => ?_) (fun c11 => ?_)
      · have d12 : (gI h 426 k7) = 0 := (of_decide_eq_true c11)
        refine e_cn (pc' := 44) i149_43 rfl ?_
        exact (by simp only [if_pos d12] at kj10 ⊢; exact kj10)
      · have d13 : ¬ ((gI h 426 k7) = 0) := (of_decide_eq_false c11)
        refine e_cn (pc' := 40) i149_39 rfl ?_
        refine e_go i149_40 ?_
        exact (by simp only [if_neg d13] at kj10 ⊢; exact kj10)
    refine e_ib (z := l2 + (b2i (if (gI h 426 k7) = 0 then (false) else (true)))) (pc' := 45) i149_44 rfl rfl ?_
    refine e_st (ls' := [some (.ref 397), some (.int l1), some (.int (l2 + (b2i (if (gI h 426 k7) = 0 then (false) else (true))))), some (.int l3)]) (pc' := 46) i149_45 rfl rfl rfl ?_
    refine e_inc (z := l3 + 1) (ls' := [some (.ref 397), some (.int l1), some (.int (l2 + (b2i (if (gI h 426 k7) = 0 then (false) else (true))))), some (.int (l3 + 1))]) (pc' := 49) i149_46 rfl rfl rfl rfl ?_
    refine e_go i149_49 ?_
    exact H
-- FloorTurnModel.placeOf(IIII)I
set_option maxHeartbeats 8000000 in
set_option maxRecDepth 100000 in
theorem v151 {L : Nat} {xs : Nat → Int32} {Q : Option Value → Hp → Prop} {h : Hp} {x : Int32} {y : Int32} {z : Int32} {u : Int32} (hw : HW h) 
  (H : ∃ k1 : Nat, x = nI k1 ∧ k1 < 8 ∧ (¬ (gI h 424 k1) = 0) ∧ (¬ (gI h 424 k1) = 0) ∧ WP L xs 151 31 [some (.ref 397), some (.int x), some (.int y), some (.int z), some (.int u), some (.int (gI h 424 k1)), some (.int (gI h 425 k1)), some (.int (y - y / (gI h 424 k1) * (gI h 424 k1))), some (.int (y / (gI h 424 k1))), some (.int 0), none, none] [] h Q) : ∃ r h', Sp L xs 151 [.ref 397, .int x, .int y, .int z, .int u] h r h' ∧ Q r h' := by
  refine sp_ex (ls := [some (.ref 397), some (.int x), some (.int y), some (.int z), some (.int u), none, none, none, none, none, none, none]) rfl ?_
  refine e_ld (pc' := 1) i151_0 rfl rfl ?_
  refine e_get (w := .ref 424) (pc' := 4) i151_1 rfl (x_isC (by decide) hw.1 sh397) (x_fvR (by decide +kernel) (hw.2 397 28 424 lk397_28)) ?_
  refine e_ld (pc' := 5) i151_4 rfl rfl ?_
  obtain ⟨k1, e2, g3, H⟩ := H
  refine e_al (n := k1) (w := .int (gI h 424 k1)) (pc' := 6) i151_5 rfl (x_alE (a := 20) (by decide) hw.1 sh424 (by decide) e2 g3 (by decide)) (x_clE e2 g3 (by decide)) rfl ?_
  refine e_st (ls' := [some (.ref 397), some (.int x), some (.int y), some (.int z), some (.int u), some (.int (gI h 424 k1)), none, none, none, none, none, none]) (pc' := 8) i151_6 rfl rfl rfl ?_
  refine e_ld (pc' := 9) i151_8 rfl rfl ?_
  refine e_get (w := .ref 425) (pc' := 12) i151_9 rfl (x_isC (by decide) hw.1 sh397) (x_fvR (by decide +kernel) (hw.2 397 29 425 lk397_29)) ?_
  refine e_ld (pc' := 13) i151_12 rfl rfl ?_
  refine e_al (n := k1) (w := .int (gI h 425 k1)) (pc' := 14) i151_13 rfl (x_alE (a := 20) (by decide) hw.1 sh425 (by decide) e2 g3 (by decide)) (x_clE e2 g3 (by decide)) rfl ?_
  refine e_st (ls' := [some (.ref 397), some (.int x), some (.int y), some (.int z), some (.int u), some (.int (gI h 424 k1)), some (.int (gI h 425 k1)), none, none, none, none, none]) (pc' := 16) i151_14 rfl rfl rfl ?_
  refine e_ld (pc' := 17) i151_16 rfl rfl ?_
  refine e_ld (pc' := 19) i151_17 rfl rfl ?_
  obtain ⟨g4, H⟩ := H
  refine e_ib (z := y - y / (gI h 424 k1) * (gI h 424 k1)) (pc' := 20) i151_19 rfl (x_ib_rem g4) ?_
  refine e_st (ls' := [some (.ref 397), some (.int x), some (.int y), some (.int z), some (.int u), some (.int (gI h 424 k1)), some (.int (gI h 425 k1)), some (.int (y - y / (gI h 424 k1) * (gI h 424 k1))), none, none, none, none]) (pc' := 22) i151_20 rfl rfl rfl ?_
  refine e_ld (pc' := 23) i151_22 rfl rfl ?_
  refine e_ld (pc' := 25) i151_23 rfl rfl ?_
  obtain ⟨g5, H⟩ := H
  refine e_ib (z := y / (gI h 424 k1)) (pc' := 26) i151_25 rfl (x_ib_div g5) ?_
  refine e_st (ls' := [some (.ref 397), some (.int x), some (.int y), some (.int z), some (.int u), some (.int (gI h 424 k1)), some (.int (gI h 425 k1)), some (.int (y - y / (gI h 424 k1) * (gI h 424 k1))), some (.int (y / (gI h 424 k1))), none, none, none]) (pc' := 28) i151_26 rfl rfl rfl ?_
  refine e_cn (pc' := 29) i151_28 rfl ?_
  refine e_st (ls' := [some (.ref 397), some (.int x), some (.int y), some (.int z), some (.int u), some (.int (gI h 424 k1)), some (.int (gI h 425 k1)), some (.int (y - y / (gI h 424 k1) * (gI h 424 k1))), some (.int (y / (gI h 424 k1))), some (.int 0), none, none]) (pc' := 31) i151_29 rfl rfl rfl ?_
  exact H
set_option maxHeartbeats 8000000 in
set_option maxRecDepth 100000 in
theorem v151_31 {L : Nat} {xs : Nat → Int32} {Q : Option Value → Hp → Prop} {h : Hp} {z0 : Option Value} {z1 : Option Value} {z2 : Option Value} {l3 : Int32} {l4 : Int32} {l5 : Int32} {l6 : Int32} {l7 : Int32} {l8 : Int32} {l9 : Int32} {z10 : Option Value} {z11 : Option Value} (hw : HW h) 
  (H : ((l4 ≤ l9) → (Q (some (.int ((l3 + (12 * l8)) + l7))) h)) ∧ (¬ (l4 ≤ l9) → (WP L xs 151 31 [z0, z1, z2, some (.int l3), some (.int l4), some (.int l6), some (.int l5), some (.int ((l6 - 1) - l8)), some (.int l7), some (.int (l9 + 1)), some (.int ((l6 - 1) - l8)), some (.int l5)] [] h Q))) : WP L xs 151 31 [z0, z1, z2, some (.int l3), some (.int l4), some (.int l5), some (.int l6), some (.int l7), some (.int l8), some (.int l9), z10, z11] [] h Q := by
  refine e_ld (pc' := 33) i151_31 rfl rfl ?_
  refine e_ld (pc' := 35) i151_33 rfl rfl ?_
  refine e_ic (pc' := 38) i151_35 rfl (fun c1 => ?_) (fun c1 => ?_)
  · have d2 : l4 ≤ l9 := (of_decide_eq_true c1)
    replace H := H.1 d2
    refine e_ld (pc' := 74) i151_73 rfl rfl ?_
    refine e_cn (pc' := 76) i151_74 rfl ?_
    refine e_ld (pc' := 78) i151_76 rfl rfl ?_
    refine e_ib (z := 12 * l8) (pc' := 79) i151_78 rfl rfl ?_
    refine e_ib (z := l3 + (12 * l8)) (pc' := 80) i151_79 rfl rfl ?_
    refine e_ld (pc' := 82) i151_80 rfl rfl ?_
    refine e_ib (z := (l3 + (12 * l8)) + l7) (pc' := 83) i151_82 rfl rfl ?_
    refine e_rt i151_83 rfl ?_
    exact H
  · have d3 : ¬ (l4 ≤ l9) := (of_decide_eq_false c1)
    replace H := H.2 d3
    refine e_ld (pc' := 40) i151_38 rfl rfl ?_
    refine e_cn (pc' := 41) i151_40 rfl ?_
    refine e_ib (z := l6 - 1) (pc' := 42) i151_41 rfl rfl ?_
    refine e_ld (pc' := 44) i151_42 rfl rfl ?_
    refine e_ib (z := (l6 - 1) - l8) (pc' := 45) i151_44 rfl rfl ?_
    refine e_st (ls' := [z0, z1, z2, some (.int l3), some (.int l4), some (.int l5), some (.int l6), some (.int l7), some (.int l8), some (.int l9), some (.int ((l6 - 1) - l8)), z11]) (pc' := 47) i151_45 rfl rfl rfl ?_
    refine e_ld (pc' := 49) i151_47 rfl rfl ?_
    refine e_st (ls' := [z0, z1, z2, some (.int l3), some (.int l4), some (.int l5), some (.int l6), some (.int l7), some (.int l7), some (.int l9), some (.int ((l6 - 1) - l8)), z11]) (pc' := 51) i151_49 rfl rfl rfl ?_
    refine e_ld (pc' := 53) i151_51 rfl rfl ?_
    refine e_st (ls' := [z0, z1, z2, some (.int l3), some (.int l4), some (.int l5), some (.int l6), some (.int ((l6 - 1) - l8)), some (.int l7), some (.int l9), some (.int ((l6 - 1) - l8)), z11]) (pc' := 55) i151_53 rfl rfl rfl ?_
    refine e_ld (pc' := 57) i151_55 rfl rfl ?_
    refine e_st (ls' := [z0, z1, z2, some (.int l3), some (.int l4), some (.int l5), some (.int l6), some (.int ((l6 - 1) - l8)), some (.int l7), some (.int l9), some (.int ((l6 - 1) - l8)), some (.int l5)]) (pc' := 59) i151_57 rfl rfl rfl ?_
    refine e_ld (pc' := 61) i151_59 rfl rfl ?_
    refine e_st (ls' := [z0, z1, z2, some (.int l3), some (.int l4), some (.int l6), some (.int l6), some (.int ((l6 - 1) - l8)), some (.int l7), some (.int l9), some (.int ((l6 - 1) - l8)), some (.int l5)]) (pc' := 63) i151_61 rfl rfl rfl ?_
    refine e_ld (pc' := 65) i151_63 rfl rfl ?_
    refine e_st (ls' := [z0, z1, z2, some (.int l3), some (.int l4), some (.int l6), some (.int l5), some (.int ((l6 - 1) - l8)), some (.int l7), some (.int l9), some (.int ((l6 - 1) - l8)), some (.int l5)]) (pc' := 67) i151_65 rfl rfl rfl ?_
    refine e_inc (z := l9 + 1) (ls' := [z0, z1, z2, some (.int l3), some (.int l4), some (.int l6), some (.int l5), some (.int ((l6 - 1) - l8)), some (.int l7), some (.int (l9 + 1)), some (.int ((l6 - 1) - l8)), some (.int l5)]) (pc' := 70) i151_67 rfl rfl rfl rfl ?_
    refine e_go i151_70 ?_
    exact H
-- FloorTurnModel.pieceless(I)I
set_option maxHeartbeats 8000000 in
set_option maxRecDepth 100000 in
theorem v152 {L : Nat} {xs : Nat → Int32} {Q : Option Value → Hp → Prop} {h : Hp} {x : Int32} (hw : HW h) 
  (H : ∃ (r2 : Int32), Sp L xs 137 [.ref 397, .int x] h (some (.int r2)) h ∧ ((r2 = 0) → (∃ k5 : Nat, x = nI k5 ∧ k5 < 8 ∧ Q (some (.int (if (gI h 420 k5) = (-1) then ((-3)) else (0)))) h)) ∧ (¬ (r2 = 0) → (Q (some (.int (-2))) h))) : ∃ r h', Sp L xs 152 [.ref 397, .int x] h r h' ∧ Q r h' := by
  refine sp_ex (ls := [some (.ref 397), some (.int x)]) rfl ?_
  refine e_ld (pc' := 1) i152_0 rfl rfl ?_
  refine e_ld (pc' := 2) i152_1 rfl rfl ?_
  obtain ⟨r2, s1, H⟩ := H
  refine e_cI (w := .int r2) (As := [.ref 397, .int x]) (rest := []) (pc' := 5) i152_2 rfl rfl rfl rfl (by show (Nat.beq (x_kd 137) 0 && x_is 397 _ (MC 137) 0) = true; rw [show x_kd 137 = 0 by decide +kernel, show MC 137 = 11 by decide +kernel, (x_isC (by decide) hw.1 sh397)]; rfl) s1 ?_
  refine e_if (pc' := 8) i152_5 rfl (fun c3 => ?_) (fun c3 => ?_)
  · have d4 : r2 = 0 := (of_decide_eq_true c3)
    replace H := H.1 d4
    refine e_ld (pc' := 14) i152_13 rfl rfl ?_
    refine e_get (w := .ref 420) (pc' := 17) i152_14 rfl (x_isC (by decide) hw.1 sh397) (x_fvR (by decide +kernel) (hw.2 397 24 420 lk397_24)) ?_
    refine e_ld (pc' := 18) i152_17 rfl rfl ?_
    obtain ⟨k5, e6, g7, H⟩ := H
    refine e_al (n := k5) (w := .int (gI h 420 k5)) (pc' := 19) i152_18 rfl (x_alE (a := 20) (by decide) hw.1 sh420 (by decide) e6 g7 (by decide)) (x_clE e6 g7 (by decide)) rfl ?_
    refine e_cn (pc' := 20) i152_19 rfl ?_
    refine e_reg (pc' := 29) (ls' := [some (.ref 397), some (.int x)]) (st' := [.int (if (gI h 420 k5) = (-1) then ((-3)) else (0))]) (fun kj8 => ?_) ?_
    · skip
      refine e_ic (pc' := 23) i152_20 rfl (fun c9 => ?_) (fun c9 => ?_)
      · have d10 : ¬ ((gI h 420 k5) = (-1)) := (of_decide_eq_true c9)
        refine e_cn (pc' := 29) i152_28 rfl ?_
        exact (by simp only [if_neg d10] at kj8 ⊢; exact kj8)
      · have d11 : (gI h 420 k5) = (-1) := (Decidable.not_not.mp (of_decide_eq_false c9))
        refine e_cn (pc' := 25) i152_23 rfl ?_
        refine e_go i152_25 ?_
        exact (by simp only [if_pos d11] at kj8 ⊢; exact kj8)
    refine e_rt i152_29 rfl ?_
    exact H
  · have d12 : ¬ (r2 = 0) := (of_decide_eq_false c3)
    replace H := H.2 d12
    refine e_cn (pc' := 10) i152_8 rfl ?_
    refine e_go i152_10 ?_
    refine e_rt i152_29 rfl ?_
    exact H
-- FloorTurnModel.put(III)I
set_option maxHeartbeats 8000000 in
set_option maxRecDepth 100000 in
theorem v153 {L : Nat} {xs : Nat → Int32} {Q : Option Value → Hp → Prop} {h : Hp} {x : Int32} {y : Int32} {z : Int32} (hw : HW h) 
  (H : (((x_isShelf x) = true) → ((((x_isCell y) = true) → (∃ (r11 : Int32), Sp L xs 152 [.ref 397, .int x] h (some (.int r11)) h ∧ ((r11 = 0) → ((((x_in3 z 0 3) = true) → ((((z - z / 2 * 2) = 0) → (∃ k36 : Nat, x = nI k36 ∧ k36 < 8 ∧ (((12 - (y - y / 12 * 12)) < (gI h 424 k36)) → (∃ (r43 : Int32) (h41 : Hp), Sp L xs 124 [.ref 397, .int (-6)] h (some (.int r43)) h41 ∧ Q (some (.int r43)) h41)) ∧ (¬ ((12 - (y - y / 12 * 12)) < (gI h 424 k36)) → ((((gI h 425 k36) ≤ (12 - (y / 12))) → (WP L xs 153 135 [some (.ref 397), some (.int x), some (.int y), some (.int z), some (.int r11), some (.int (gI h 424 k36)), some (.int (gI h 425 k36)), some (.int 0), none] [] h Q)) ∧ (¬ ((gI h 425 k36) ≤ (12 - (y / 12))) → (∃ (r51 : Int32) (h49 : Hp), Sp L xs 124 [.ref 397, .int (-6)] h (some (.int r51)) h49 ∧ Q (some (.int r51)) h49)))))) ∧ (¬ ((z - z / 2 * 2) = 0) → (∃ k18 : Nat, x = nI k18 ∧ k18 < 8 ∧ (((12 - (y - y / 12 * 12)) < (gI h 425 k18)) → (∃ (r25 : Int32) (h23 : Hp), Sp L xs 124 [.ref 397, .int (-6)] h (some (.int r25)) h23 ∧ Q (some (.int r25)) h23)) ∧ (¬ ((12 - (y - y / 12 * 12)) < (gI h 425 k18)) → ((((gI h 424 k18) ≤ (12 - (y / 12))) → (WP L xs 153 135 [some (.ref 397), some (.int x), some (.int y), some (.int z), some (.int r11), some (.int (gI h 425 k18)), some (.int (gI h 424 k18)), some (.int 0), none] [] h Q)) ∧ (¬ ((gI h 424 k18) ≤ (12 - (y / 12))) → (∃ (r33 : Int32) (h31 : Hp), Sp L xs 124 [.ref 397, .int (-6)] h (some (.int r33)) h31 ∧ Q (some (.int r33)) h31)))))))) ∧ (¬ ((x_in3 z 0 3) = true) → (∃ (r56 : Int32) (h54 : Hp), Sp L xs 124 [.ref 397, .int (-6)] h (some (.int r56)) h54 ∧ Q (some (.int r56)) h54)))) ∧ (¬ (r11 = 0) → (∃ (r61 : Int32) (h59 : Hp), Sp L xs 124 [.ref 397, .int r11] h (some (.int r61)) h59 ∧ Q (some (.int r61)) h59)))) ∧ (¬ ((x_isCell y) = true) → (∃ (r66 : Int32) (h64 : Hp), Sp L xs 124 [.ref 397, .int (-1)] h (some (.int r66)) h64 ∧ Q (some (.int r66)) h64)))) ∧ (¬ ((x_isShelf x) = true) → (∃ (r5 : Int32) (h3 : Hp), Sp L xs 124 [.ref 397, .int (-1)] h (some (.int r5)) h3 ∧ Q (some (.int r5)) h3))) : ∃ r h', Sp L xs 153 [.ref 397, .int x, .int y, .int z] h r h' ∧ Q r h' := by
  refine sp_ex (ls := [some (.ref 397), some (.int x), some (.int y), some (.int z), none, none, none, none, none]) rfl ?_
  refine e_ld (pc' := 1) i153_0 rfl rfl ?_
  refine e_cI (w := .int (b2i (x_isShelf x))) (As := [.int x]) (rest := []) (pc' := 4) i153_1 rfl rfl rfl rfl rfl m136 ?_
  refine e_b0 (pc' := 7) i153_4 rfl (fun c1 => ?_) (fun c1 => ?_)
  · have d2 : ¬ ((x_isShelf x) = true) := (show ¬ (x_isShelf x) = true by rw [c1]; decide)
    replace H := H.2 d2
    refine e_ld (pc' := 15) i153_14 rfl rfl ?_
    refine e_cn (pc' := 16) i153_15 rfl ?_
    obtain ⟨r5, h3, s4, H⟩ := H
    have w7q := HW_sp (show x_okm 124 = true by rfl) s4 hw
    have w7 : HW h3 := w7q.1
    refine e_cI (w := .int r5) (As := [.ref 397, .int (-1)]) (rest := []) (pc' := 19) i153_16 rfl rfl rfl rfl (by show (Nat.beq (x_kd 124) 0 && x_is 397 _ (MC 124) 0) = true; rw [show x_kd 124 = 0 by decide +kernel, show MC 124 = 11 by decide +kernel, (x_isC (by decide) hw.1 sh397)]; rfl) s4 ?_
    refine e_rt i153_19 rfl ?_
    exact H
  · have d7 : (x_isShelf x) = true := c1
    replace H := H.1 d7
    refine e_ld (pc' := 8) i153_7 rfl rfl ?_
    refine e_cI (w := .int (b2i (x_isCell y))) (As := [.int y]) (rest := []) (pc' := 11) i153_8 rfl rfl rfl rfl rfl m125 ?_
    refine e_b1 (pc' := 14) i153_11 rfl (fun c8 => ?_) (fun c8 => ?_)
    · have d9 : (x_isCell y) = true := c8
      replace H := H.1 d9
      refine e_ld (pc' := 21) i153_20 rfl rfl ?_
      refine e_ld (pc' := 22) i153_21 rfl rfl ?_
      obtain ⟨r11, s10, H⟩ := H
      refine e_cI (w := .int r11) (As := [.ref 397, .int x]) (rest := []) (pc' := 25) i153_22 rfl rfl rfl rfl (by show (Nat.beq (x_kd 152) 0 && x_is 397 _ (MC 152) 0) = true; rw [show x_kd 152 = 0 by decide +kernel, show MC 152 = 11 by decide +kernel, (x_isC (by decide) hw.1 sh397)]; rfl) s10 ?_
      refine e_st (ls' := [some (.ref 397), some (.int x), some (.int y), some (.int z), some (.int r11), none, none, none, none]) (pc' := 27) i153_25 rfl rfl rfl ?_
      refine e_ld (pc' := 29) i153_27 rfl rfl ?_
      refine e_if (pc' := 32) i153_29 rfl (fun c12 => ?_) (fun c12 => ?_)
      · have d13 : r11 = 0 := (of_decide_eq_true c12)
        replace H := H.1 d13
        refine e_ld (pc' := 40) i153_39 rfl rfl ?_
        refine e_cn (pc' := 41) i153_40 rfl ?_
        refine e_cn (pc' := 42) i153_41 rfl ?_
        refine e_cI (w := .int (b2i (x_in3 z 0 3))) (As := [.int z, .int 0, .int 3]) (rest := []) (pc' := 45) i153_42 rfl rfl rfl rfl rfl m123 ?_
        refine e_b1 (pc' := 48) i153_45 rfl (fun c14 => ?_) (fun c14 => ?_)
        · have d15 : (x_in3 z 0 3) = true := c14
          replace H := H.1 d15
          refine e_ld (pc' := 56) i153_55 rfl rfl ?_
          refine e_cn (pc' := 57) i153_56 rfl ?_
          refine e_ib (z := z - z / 2 * 2) (pc' := 58) i153_57 rfl (x_ib_rem (by decide)) ?_
          refine e_if (pc' := 61) i153_58 rfl (fun c16 => ?_) (fun c16 => ?_)
          · have d17 : ¬ ((z - z / 2 * 2) = 0) := (of_decide_eq_true c16)
            replace H := H.2 d17
            refine e_ld (pc' := 71) i153_70 rfl rfl ?_
            refine e_get (w := .ref 425) (pc' := 74) i153_71 rfl (x_isC (by decide) hw.1 sh397) (x_fvR (by decide +kernel) (hw.2 397 29 425 lk397_29)) ?_
            refine e_ld (pc' := 75) i153_74 rfl rfl ?_
            obtain ⟨k18, e19, g20, H⟩ := H
            refine e_al (n := k18) (w := .int (gI h 425 k18)) (pc' := 76) i153_75 rfl (x_alE (a := 20) (by decide) hw.1 sh425 (by decide) e19 g20 (by decide)) (x_clE e19 g20 (by decide)) rfl ?_
            refine e_st (ls' := [some (.ref 397), some (.int x), some (.int y), some (.int z), some (.int r11), some (.int (gI h 425 k18)), none, none, none]) (pc' := 78) i153_76 rfl rfl rfl ?_
            refine e_ld (pc' := 79) i153_78 rfl rfl ?_
            refine e_cn (pc' := 80) i153_79 rfl ?_
            refine e_ib (z := z - z / 2 * 2) (pc' := 81) i153_80 rfl (x_ib_rem (by decide)) ?_
            refine e_ifT i153_81 (decide_eq_true d17) ?_
            refine e_ld (pc' := 94) i153_93 rfl rfl ?_
            refine e_get (w := .ref 424) (pc' := 97) i153_94 rfl (x_isC (by decide) hw.1 sh397) (x_fvR (by decide +kernel) (hw.2 397 28 424 lk397_28)) ?_
            refine e_ld (pc' := 98) i153_97 rfl rfl ?_
            refine e_al (n := k18) (w := .int (gI h 424 k18)) (pc' := 99) i153_98 rfl (x_alE (a := 20) (by decide) hw.1 sh424 (by decide) e19 g20 (by decide)) (x_clE e19 g20 (by decide)) rfl ?_
            refine e_st (ls' := [some (.ref 397), some (.int x), some (.int y), some (.int z), some (.int r11), some (.int (gI h 425 k18)), some (.int (gI h 424 k18)), none, none]) (pc' := 101) i153_99 rfl rfl rfl ?_
            refine e_ld (pc' := 103) i153_101 rfl rfl ?_
            refine e_cn (pc' := 105) i153_103 rfl ?_
            refine e_ld (pc' := 106) i153_105 rfl rfl ?_
            refine e_cn (pc' := 108) i153_106 rfl ?_
            refine e_ib (z := y - y / 12 * 12) (pc' := 109) i153_108 rfl (x_ib_rem (by decide)) ?_
            refine e_ib (z := 12 - (y - y / 12 * 12)) (pc' := 110) i153_109 rfl rfl ?_
            refine e_ic (pc' := 113) i153_110 rfl (fun c21 => ?_) (fun c21 => ?_)
            · have d22 : (12 - (y - y / 12 * 12)) < (gI h 425 k18) := (of_decide_eq_true c21)
              replace H := H.1 d22
              refine e_ld (pc' := 126) i153_125 rfl rfl ?_
              refine e_cn (pc' := 128) i153_126 rfl ?_
              obtain ⟨r25, h23, s24, H⟩ := H
              have w27q := HW_sp (show x_okm 124 = true by rfl) s24 hw
              have w27 : HW h23 := w27q.1
              refine e_cI (w := .int r25) (As := [.ref 397, .int (-6)]) (rest := []) (pc' := 131) i153_128 rfl rfl rfl rfl (by show (Nat.beq (x_kd 124) 0 && x_is 397 _ (MC 124) 0) = true; rw [show x_kd 124 = 0 by decide +kernel, show MC 124 = 11 by decide +kernel, (x_isC (by decide) hw.1 sh397)]; rfl) s24 ?_
              refine e_rt i153_131 rfl ?_
              exact H
            · have d27 : ¬ ((12 - (y - y / 12 * 12)) < (gI h 425 k18)) := (of_decide_eq_false c21)
              replace H := H.2 d27
              refine e_ld (pc' := 115) i153_113 rfl rfl ?_
              refine e_cn (pc' := 117) i153_115 rfl ?_
              refine e_ld (pc' := 118) i153_117 rfl rfl ?_
              refine e_cn (pc' := 120) i153_118 rfl ?_
              refine e_ib (z := y / 12) (pc' := 121) i153_120 rfl (x_ib_div (by decide)) ?_
              refine e_ib (z := 12 - (y / 12)) (pc' := 122) i153_121 rfl rfl ?_
              refine e_ic (pc' := 125) i153_122 rfl (fun c28 => ?_) (fun c28 => ?_)
              · have d29 : (gI h 424 k18) ≤ (12 - (y / 12)) := (of_decide_eq_true c28)
                replace H := H.1 d29
                refine e_cn (pc' := 133) i153_132 rfl ?_
                refine e_st (ls' := [some (.ref 397), some (.int x), some (.int y), some (.int z), some (.int r11), some (.int (gI h 425 k18)), some (.int (gI h 424 k18)), some (.int 0), none]) (pc' := 135) i153_133 rfl rfl rfl ?_
                exact H
              · have d30 : ¬ ((gI h 424 k18) ≤ (12 - (y / 12))) := (of_decide_eq_false c28)
                replace H := H.2 d30
                refine e_ld (pc' := 126) i153_125 rfl rfl ?_
                refine e_cn (pc' := 128) i153_126 rfl ?_
                obtain ⟨r33, h31, s32, H⟩ := H
                have w35q := HW_sp (show x_okm 124 = true by rfl) s32 hw
                have w35 : HW h31 := w35q.1
                refine e_cI (w := .int r33) (As := [.ref 397, .int (-6)]) (rest := []) (pc' := 131) i153_128 rfl rfl rfl rfl (by show (Nat.beq (x_kd 124) 0 && x_is 397 _ (MC 124) 0) = true; rw [show x_kd 124 = 0 by decide +kernel, show MC 124 = 11 by decide +kernel, (x_isC (by decide) hw.1 sh397)]; rfl) s32 ?_
                refine e_rt i153_131 rfl ?_
                exact H
          · have d35 : (z - z / 2 * 2) = 0 := (Decidable.not_not.mp (of_decide_eq_false c16))
            replace H := H.1 d35
            refine e_ld (pc' := 62) i153_61 rfl rfl ?_
            refine e_get (w := .ref 424) (pc' := 65) i153_62 rfl (x_isC (by decide) hw.1 sh397) (x_fvR (by decide +kernel) (hw.2 397 28 424 lk397_28)) ?_
            refine e_ld (pc' := 66) i153_65 rfl rfl ?_
            obtain ⟨k36, e37, g38, H⟩ := H
            refine e_al (n := k36) (w := .int (gI h 424 k36)) (pc' := 67) i153_66 rfl (x_alE (a := 20) (by decide) hw.1 sh424 (by decide) e37 g38 (by decide)) (x_clE e37 g38 (by decide)) rfl ?_
            refine e_go i153_67 ?_
            refine e_st (ls' := [some (.ref 397), some (.int x), some (.int y), some (.int z), some (.int r11), some (.int (gI h 424 k36)), none, none, none]) (pc' := 78) i153_76 rfl rfl rfl ?_
            refine e_ld (pc' := 79) i153_78 rfl rfl ?_
            refine e_cn (pc' := 80) i153_79 rfl ?_
            refine e_ib (z := z - z / 2 * 2) (pc' := 81) i153_80 rfl (x_ib_rem (by decide)) ?_
            refine e_ifF (pc' := 84) i153_81 rfl (decide_eq_false (not_not_intro d35)) ?_
            refine e_ld (pc' := 85) i153_84 rfl rfl ?_
            refine e_get (w := .ref 425) (pc' := 88) i153_85 rfl (x_isC (by decide) hw.1 sh397) (x_fvR (by decide +kernel) (hw.2 397 29 425 lk397_29)) ?_
            refine e_ld (pc' := 89) i153_88 rfl rfl ?_
            refine e_al (n := k36) (w := .int (gI h 425 k36)) (pc' := 90) i153_89 rfl (x_alE (a := 20) (by decide) hw.1 sh425 (by decide) e37 g38 (by decide)) (x_clE e37 g38 (by decide)) rfl ?_
            refine e_go i153_90 ?_
            refine e_st (ls' := [some (.ref 397), some (.int x), some (.int y), some (.int z), some (.int r11), some (.int (gI h 424 k36)), some (.int (gI h 425 k36)), none, none]) (pc' := 101) i153_99 rfl rfl rfl ?_
            refine e_ld (pc' := 103) i153_101 rfl rfl ?_
            refine e_cn (pc' := 105) i153_103 rfl ?_
            refine e_ld (pc' := 106) i153_105 rfl rfl ?_
            refine e_cn (pc' := 108) i153_106 rfl ?_
            refine e_ib (z := y - y / 12 * 12) (pc' := 109) i153_108 rfl (x_ib_rem (by decide)) ?_
            refine e_ib (z := 12 - (y - y / 12 * 12)) (pc' := 110) i153_109 rfl rfl ?_
            refine e_ic (pc' := 113) i153_110 rfl (fun c39 => ?_) (fun c39 => ?_)
            · have d40 : (12 - (y - y / 12 * 12)) < (gI h 424 k36) := (of_decide_eq_true c39)
              replace H := H.1 d40
              refine e_ld (pc' := 126) i153_125 rfl rfl ?_
              refine e_cn (pc' := 128) i153_126 rfl ?_
              obtain ⟨r43, h41, s42, H⟩ := H
              have w45q := HW_sp (show x_okm 124 = true by rfl) s42 hw
              have w45 : HW h41 := w45q.1
              refine e_cI (w := .int r43) (As := [.ref 397, .int (-6)]) (rest := []) (pc' := 131) i153_128 rfl rfl rfl rfl (by show (Nat.beq (x_kd 124) 0 && x_is 397 _ (MC 124) 0) = true; rw [show x_kd 124 = 0 by decide +kernel, show MC 124 = 11 by decide +kernel, (x_isC (by decide) hw.1 sh397)]; rfl) s42 ?_
              refine e_rt i153_131 rfl ?_
              exact H
            · have d45 : ¬ ((12 - (y - y / 12 * 12)) < (gI h 424 k36)) := (of_decide_eq_false c39)
              replace H := H.2 d45
              refine e_ld (pc' := 115) i153_113 rfl rfl ?_
              refine e_cn (pc' := 117) i153_115 rfl ?_
              refine e_ld (pc' := 118) i153_117 rfl rfl ?_
              refine e_cn (pc' := 120) i153_118 rfl ?_
              refine e_ib (z := y / 12) (pc' := 121) i153_120 rfl (x_ib_div (by decide)) ?_
              refine e_ib (z := 12 - (y / 12)) (pc' := 122) i153_121 rfl rfl ?_
              refine e_ic (pc' := 125) i153_122 rfl (fun c46 => ?_) (fun c46 => ?_)
              · have d47 : (gI h 425 k36) ≤ (12 - (y / 12)) := (of_decide_eq_true c46)
                replace H := H.1 d47
                refine e_cn (pc' := 133) i153_132 rfl ?_
                refine e_st (ls' := [some (.ref 397), some (.int x), some (.int y), some (.int z), some (.int r11), some (.int (gI h 424 k36)), some (.int (gI h 425 k36)), some (.int 0), none]) (pc' := 135) i153_133 rfl rfl rfl ?_
                exact H
              · have d48 : ¬ ((gI h 425 k36) ≤ (12 - (y / 12))) := (of_decide_eq_false c46)
                replace H := H.2 d48
                refine e_ld (pc' := 126) i153_125 rfl rfl ?_
                refine e_cn (pc' := 128) i153_126 rfl ?_
                obtain ⟨r51, h49, s50, H⟩ := H
                have w53q := HW_sp (show x_okm 124 = true by rfl) s50 hw
                have w53 : HW h49 := w53q.1
                refine e_cI (w := .int r51) (As := [.ref 397, .int (-6)]) (rest := []) (pc' := 131) i153_128 rfl rfl rfl rfl (by show (Nat.beq (x_kd 124) 0 && x_is 397 _ (MC 124) 0) = true; rw [show x_kd 124 = 0 by decide +kernel, show MC 124 = 11 by decide +kernel, (x_isC (by decide) hw.1 sh397)]; rfl) s50 ?_
                refine e_rt i153_131 rfl ?_
                exact H
        · have d53 : ¬ ((x_in3 z 0 3) = true) := (show ¬ (x_in3 z 0 3) = true by rw [c14]; decide)
          replace H := H.2 d53
          refine e_ld (pc' := 49) i153_48 rfl rfl ?_
          refine e_cn (pc' := 51) i153_49 rfl ?_
          obtain ⟨r56, h54, s55, H⟩ := H
          have w58q := HW_sp (show x_okm 124 = true by rfl) s55 hw
          have w58 : HW h54 := w58q.1
          refine e_cI (w := .int r56) (As := [.ref 397, .int (-6)]) (rest := []) (pc' := 54) i153_51 rfl rfl rfl rfl (by show (Nat.beq (x_kd 124) 0 && x_is 397 _ (MC 124) 0) = true; rw [show x_kd 124 = 0 by decide +kernel, show MC 124 = 11 by decide +kernel, (x_isC (by decide) hw.1 sh397)]; rfl) s55 ?_
          refine e_rt i153_54 rfl ?_
          exact H
      · have d58 : ¬ (r11 = 0) := (of_decide_eq_false c12)
        replace H := H.2 d58
        refine e_ld (pc' := 33) i153_32 rfl rfl ?_
        refine e_ld (pc' := 35) i153_33 rfl rfl ?_
        obtain ⟨r61, h59, s60, H⟩ := H
        have w63q := HW_sp (show x_okm 124 = true by rfl) s60 hw
        have w63 : HW h59 := w63q.1
        refine e_cI (w := .int r61) (As := [.ref 397, .int r11]) (rest := []) (pc' := 38) i153_35 rfl rfl rfl rfl (by show (Nat.beq (x_kd 124) 0 && x_is 397 _ (MC 124) 0) = true; rw [show x_kd 124 = 0 by decide +kernel, show MC 124 = 11 by decide +kernel, (x_isC (by decide) hw.1 sh397)]; rfl) s60 ?_
        refine e_rt i153_38 rfl ?_
        exact H
    · have d63 : ¬ ((x_isCell y) = true) := (show ¬ (x_isCell y) = true by rw [c8]; decide)
      replace H := H.2 d63
      refine e_ld (pc' := 15) i153_14 rfl rfl ?_
      refine e_cn (pc' := 16) i153_15 rfl ?_
      obtain ⟨r66, h64, s65, H⟩ := H
      have w68q := HW_sp (show x_okm 124 = true by rfl) s65 hw
      have w68 : HW h64 := w68q.1
      refine e_cI (w := .int r66) (As := [.ref 397, .int (-1)]) (rest := []) (pc' := 19) i153_16 rfl rfl rfl rfl (by show (Nat.beq (x_kd 124) 0 && x_is 397 _ (MC 124) 0) = true; rw [show x_kd 124 = 0 by decide +kernel, show MC 124 = 11 by decide +kernel, (x_isC (by decide) hw.1 sh397)]; rfl) s65 ?_
      refine e_rt i153_19 rfl ?_
      exact H
set_option maxHeartbeats 8000000 in
set_option maxRecDepth 100000 in
theorem v153_135 {L : Nat} {xs : Nat → Int32} {Q : Option Value → Hp → Prop} {h : Hp} {l1 : Int32} {l2 : Int32} {l3 : Int32} {z4 : Option Value} {l5 : Int32} {l6 : Int32} {l7 : Int32} {z8 : Option Value} (hw : HW h) 
  (H : (((l5 * l6) ≤ l7) → (WP L xs 153 196 [some (.ref 397), some (.int l1), some (.int l2), some (.int l3), z4, some (.int l5), some (.int l6), some (.int 0), z8] [] h Q)) ∧ (¬ ((l5 * l6) ≤ l7) → (∃ k4 : Nat, ((576 * l1) + (4 * l7)) = nI k4 ∧ k4 < 4608 ∧ (((gI h 426 k4) = 0) → (WP L xs 153 135 [some (.ref 397), some (.int l1), some (.int l2), some (.int l3), z4, some (.int l5), some (.int l6), some (.int (l7 + 1)), z8] [] h Q)) ∧ (¬ ((gI h 426 k4) = 0) → (∃ (r11 : Int32), Sp L xs 151 [.ref 397, .int l1, .int l7, .int l2, .int l3] h (some (.int r11)) h ∧ ∃ k12 : Nat, r11 = nI k12 ∧ k12 < 144 ∧ (((gI h 405 k12) = 0) → (WP L xs 153 135 [some (.ref 397), some (.int l1), some (.int l2), some (.int l3), z4, some (.int l5), some (.int l6), some (.int (l7 + 1)), z8] [] h Q)) ∧ (¬ ((gI h 405 k12) = 0) → (∃ (r20 : Int32) (h18 : Hp), Sp L xs 124 [.ref 397, .int (-6)] h (some (.int r20)) h18 ∧ Q (some (.int r20)) h18))))))) : WP L xs 153 135 [some (.ref 397), some (.int l1), some (.int l2), some (.int l3), z4, some (.int l5), some (.int l6), some (.int l7), z8] [] h Q := by
  refine e_ld (pc' := 137) i153_135 rfl rfl ?_
  refine e_ld (pc' := 139) i153_137 rfl rfl ?_
  refine e_ld (pc' := 141) i153_139 rfl rfl ?_
  refine e_ib (z := l5 * l6) (pc' := 142) i153_141 rfl rfl ?_
  refine e_ic (pc' := 145) i153_142 rfl (fun c1 => ?_) (fun c1 => ?_)
  · have d2 : (l5 * l6) ≤ l7 := (of_decide_eq_true c1)
    replace H := H.1 d2
    refine e_cn (pc' := 194) i153_193 rfl ?_
    refine e_st (ls' := [some (.ref 397), some (.int l1), some (.int l2), some (.int l3), z4, some (.int l5), some (.int l6), some (.int 0), z8]) (pc' := 196) i153_194 rfl rfl rfl ?_
    exact H
  · have d3 : ¬ ((l5 * l6) ≤ l7) := (of_decide_eq_false c1)
    replace H := H.2 d3
    refine e_ld (pc' := 146) i153_145 rfl rfl ?_
    refine e_get (w := .ref 426) (pc' := 149) i153_146 rfl (x_isC (by decide) hw.1 sh397) (x_fvR (by decide +kernel) (hw.2 397 30 426 lk397_30)) ?_
    refine e_cn (pc' := 152) i153_149 rfl ?_
    refine e_ld (pc' := 153) i153_152 rfl rfl ?_
    refine e_ib (z := 576 * l1) (pc' := 154) i153_153 rfl rfl ?_
    refine e_cn (pc' := 155) i153_154 rfl ?_
    refine e_ld (pc' := 157) i153_155 rfl rfl ?_
    refine e_ib (z := 4 * l7) (pc' := 158) i153_157 rfl rfl ?_
    refine e_ib (z := (576 * l1) + (4 * l7)) (pc' := 159) i153_158 rfl rfl ?_
    obtain ⟨k4, e5, g6, H⟩ := H
    refine e_al (n := k4) (w := .int (gI h 426 k4)) (pc' := 160) i153_159 rfl (x_alE (a := 20) (by decide) hw.1 sh426 (by decide) e5 g6 (by decide)) (x_clE e5 g6 (by decide)) rfl ?_
    refine e_if (pc' := 163) i153_160 rfl (fun c7 => ?_) (fun c7 => ?_)
    · have d8 : (gI h 426 k4) = 0 := (of_decide_eq_true c7)
      replace H := H.1 d8
      refine e_inc (z := l7 + 1) (ls' := [some (.ref 397), some (.int l1), some (.int l2), some (.int l3), z4, some (.int l5), some (.int l6), some (.int (l7 + 1)), z8]) (pc' := 190) i153_187 rfl rfl rfl rfl ?_
      refine e_go i153_190 ?_
      exact H
    · have d9 : ¬ ((gI h 426 k4) = 0) := (of_decide_eq_false c7)
      replace H := H.2 d9
      refine e_ld (pc' := 164) i153_163 rfl rfl ?_
      refine e_get (w := .ref 405) (pc' := 167) i153_164 rfl (x_isC (by decide) hw.1 sh397) (x_fvR (by decide +kernel) (hw.2 397 8 405 lk397_8)) ?_
      refine e_ld (pc' := 168) i153_167 rfl rfl ?_
      refine e_ld (pc' := 169) i153_168 rfl rfl ?_
      refine e_ld (pc' := 171) i153_169 rfl rfl ?_
      refine e_ld (pc' := 172) i153_171 rfl rfl ?_
      refine e_ld (pc' := 173) i153_172 rfl rfl ?_
      obtain ⟨r11, s10, H⟩ := H
      refine e_cI (w := .int r11) (As := [.ref 397, .int l1, .int l7, .int l2, .int l3]) (rest := [.ref 405]) (pc' := 176) i153_173 rfl rfl rfl rfl (by show (Nat.beq (x_kd 151) 0 && x_is 397 _ (MC 151) 0) = true; rw [show x_kd 151 = 0 by decide +kernel, show MC 151 = 11 by decide +kernel, (x_isC (by decide) hw.1 sh397)]; rfl) s10 ?_
      obtain ⟨k12, e13, g14, H⟩ := H
      refine e_al (n := k12) (w := .int (gI h 405 k12)) (pc' := 177) i153_176 rfl (x_alE (a := 20) (by decide) hw.1 sh405 (by decide) e13 g14 (by decide)) (x_clE e13 g14 (by decide)) rfl ?_
      refine e_if (pc' := 180) i153_177 rfl (fun c15 => ?_) (fun c15 => ?_)
      · have d16 : (gI h 405 k12) = 0 := (of_decide_eq_true c15)
        replace H := H.1 d16
        refine e_inc (z := l7 + 1) (ls' := [some (.ref 397), some (.int l1), some (.int l2), some (.int l3), z4, some (.int l5), some (.int l6), some (.int (l7 + 1)), z8]) (pc' := 190) i153_187 rfl rfl rfl rfl ?_
        refine e_go i153_190 ?_
        exact H
      · have d17 : ¬ ((gI h 405 k12) = 0) := (of_decide_eq_false c15)
        replace H := H.2 d17
        refine e_ld (pc' := 181) i153_180 rfl rfl ?_
        refine e_cn (pc' := 183) i153_181 rfl ?_
        obtain ⟨r20, h18, s19, H⟩ := H
        have w22q := HW_sp (show x_okm 124 = true by rfl) s19 hw
        have w22 : HW h18 := w22q.1
        refine e_cI (w := .int r20) (As := [.ref 397, .int (-6)]) (rest := []) (pc' := 186) i153_183 rfl rfl rfl rfl (by show (Nat.beq (x_kd 124) 0 && x_is 397 _ (MC 124) 0) = true; rw [show x_kd 124 = 0 by decide +kernel, show MC 124 = 11 by decide +kernel, (x_isC (by decide) hw.1 sh397)]; rfl) s19 ?_
        refine e_rt i153_186 rfl ?_
        exact H
set_option maxHeartbeats 8000000 in
set_option maxRecDepth 100000 in
theorem v153_196 {L : Nat} {xs : Nat → Int32} {Q : Option Value → Hp → Prop} {h : Hp} {l1 : Int32} {l2 : Int32} {l3 : Int32} {z4 : Option Value} {l5 : Int32} {l6 : Int32} {l7 : Int32} {z8 : Option Value} (hw : HW h) 
  (H : (((l5 * l6) ≤ l7) → (∃ (r4 : Int32), Sp L xs 149 [.ref 397, .int l1] h (some (.int r4)) h ∧ Q (some (.int r4)) h)) ∧ (¬ ((l5 * l6) ≤ l7) → (∃ k6 : Nat, ((576 * l1) + (4 * l7)) = nI k6 ∧ k6 < 4608 ∧ (((gI h 426 k6) = 0) → (WP L xs 153 196 [some (.ref 397), some (.int l1), some (.int l2), some (.int l3), z4, some (.int l5), some (.int l6), some (.int (l7 + 1)), some (.int ((576 * l1) + (4 * l7)))] [] h Q)) ∧ (¬ ((gI h 426 k6) = 0) → (∃ (r13 : Int32), Sp L xs 151 [.ref 397, .int l1, .int l7, .int l2, .int l3] h (some (.int r13)) h ∧ ∃ k14 : Nat, (((576 * l1) + (4 * l7)) + 1) = nI k14 ∧ k14 < 4608 ∧ ∃ k17 : Nat, (((576 * l1) + (4 * l7)) + 2) = nI k17 ∧ k17 < 4608 ∧ ∃ k20 : Nat, (((576 * l1) + (4 * l7)) + 3) = nI k20 ∧ k20 < 4608 ∧ ∃ (h23 : Hp), Sp L xs 133 [.ref 397, .int r13, .int (gI h 426 k6), .int (tsd (gI h 426 k6) (gI h 426 k14) l3), .int (gI h 426 k17), .int (gI h 426 k20)] h none h23 ∧ WP L xs 153 196 [some (.ref 397), some (.int l1), some (.int l2), some (.int l3), z4, some (.int l5), some (.int l6), some (.int (l7 + 1)), some (.int ((576 * l1) + (4 * l7)))] [] h23 Q))))) : WP L xs 153 196 [some (.ref 397), some (.int l1), some (.int l2), some (.int l3), z4, some (.int l5), some (.int l6), some (.int l7), z8] [] h Q := by
  refine e_ld (pc' := 198) i153_196 rfl rfl ?_
  refine e_ld (pc' := 200) i153_198 rfl rfl ?_
  refine e_ld (pc' := 202) i153_200 rfl rfl ?_
  refine e_ib (z := l5 * l6) (pc' := 203) i153_202 rfl rfl ?_
  refine e_ic (pc' := 206) i153_203 rfl (fun c1 => ?_) (fun c1 => ?_)
  · have d2 : (l5 * l6) ≤ l7 := (of_decide_eq_true c1)
    replace H := H.1 d2
    refine e_ld (pc' := 293) i153_292 rfl rfl ?_
    refine e_ld (pc' := 294) i153_293 rfl rfl ?_
    obtain ⟨r4, s3, H⟩ := H
    refine e_cI (w := .int r4) (As := [.ref 397, .int l1]) (rest := []) (pc' := 297) i153_294 rfl rfl rfl rfl (by show (Nat.beq (x_kd 149) 0 && x_is 397 _ (MC 149) 0) = true; rw [show x_kd 149 = 0 by decide +kernel, show MC 149 = 11 by decide +kernel, (x_isC (by decide) hw.1 sh397)]; rfl) s3 ?_
    refine e_rt i153_297 rfl ?_
    exact H
  · have d5 : ¬ ((l5 * l6) ≤ l7) := (of_decide_eq_false c1)
    replace H := H.2 d5
    refine e_cn (pc' := 209) i153_206 rfl ?_
    refine e_ld (pc' := 210) i153_209 rfl rfl ?_
    refine e_ib (z := 576 * l1) (pc' := 211) i153_210 rfl rfl ?_
    refine e_cn (pc' := 212) i153_211 rfl ?_
    refine e_ld (pc' := 214) i153_212 rfl rfl ?_
    refine e_ib (z := 4 * l7) (pc' := 215) i153_214 rfl rfl ?_
    refine e_ib (z := (576 * l1) + (4 * l7)) (pc' := 216) i153_215 rfl rfl ?_
    refine e_st (ls' := [some (.ref 397), some (.int l1), some (.int l2), some (.int l3), z4, some (.int l5), some (.int l6), some (.int l7), some (.int ((576 * l1) + (4 * l7)))]) (pc' := 218) i153_216 rfl rfl rfl ?_
    refine e_ld (pc' := 219) i153_218 rfl rfl ?_
    refine e_get (w := .ref 426) (pc' := 222) i153_219 rfl (x_isC (by decide) hw.1 sh397) (x_fvR (by decide +kernel) (hw.2 397 30 426 lk397_30)) ?_
    refine e_ld (pc' := 224) i153_222 rfl rfl ?_
    obtain ⟨k6, e7, g8, H⟩ := H
    refine e_al (n := k6) (w := .int (gI h 426 k6)) (pc' := 225) i153_224 rfl (x_alE (a := 20) (by decide) hw.1 sh426 (by decide) e7 g8 (by decide)) (x_clE e7 g8 (by decide)) rfl ?_
    refine e_if (pc' := 228) i153_225 rfl (fun c9 => ?_) (fun c9 => ?_)
    · have d10 : (gI h 426 k6) = 0 := (of_decide_eq_true c9)
      replace H := H.1 d10
      refine e_inc (z := l7 + 1) (ls' := [some (.ref 397), some (.int l1), some (.int l2), some (.int l3), z4, some (.int l5), some (.int l6), some (.int (l7 + 1)), some (.int ((576 * l1) + (4 * l7)))]) (pc' := 289) i153_286 rfl rfl rfl rfl ?_
      refine e_go i153_289 ?_
      exact H
    · have d11 : ¬ ((gI h 426 k6) = 0) := (of_decide_eq_false c9)
      replace H := H.2 d11
      refine e_ld (pc' := 229) i153_228 rfl rfl ?_
      refine e_ld (pc' := 230) i153_229 rfl rfl ?_
      refine e_ld (pc' := 231) i153_230 rfl rfl ?_
      refine e_ld (pc' := 233) i153_231 rfl rfl ?_
      refine e_ld (pc' := 234) i153_233 rfl rfl ?_
      refine e_ld (pc' := 235) i153_234 rfl rfl ?_
      obtain ⟨r13, s12, H⟩ := H
      refine e_cI (w := .int r13) (As := [.ref 397, .int l1, .int l7, .int l2, .int l3]) (rest := [.ref 397]) (pc' := 238) i153_235 rfl rfl rfl rfl (by show (Nat.beq (x_kd 151) 0 && x_is 397 _ (MC 151) 0) = true; rw [show x_kd 151 = 0 by decide +kernel, show MC 151 = 11 by decide +kernel, (x_isC (by decide) hw.1 sh397)]; rfl) s12 ?_
      refine e_ld (pc' := 239) i153_238 rfl rfl ?_
      refine e_get (w := .ref 426) (pc' := 242) i153_239 rfl (x_isC (by decide) hw.1 sh397) (x_fvR (by decide +kernel) (hw.2 397 30 426 lk397_30)) ?_
      refine e_ld (pc' := 244) i153_242 rfl rfl ?_
      refine e_al (n := k6) (w := .int (gI h 426 k6)) (pc' := 245) i153_244 rfl (x_alE (a := 20) (by decide) hw.1 sh426 (by decide) e7 g8 (by decide)) (x_clE e7 g8 (by decide)) rfl ?_
      refine e_ld (pc' := 246) i153_245 rfl rfl ?_
      refine e_get (w := .ref 426) (pc' := 249) i153_246 rfl (x_isC (by decide) hw.1 sh397) (x_fvR (by decide +kernel) (hw.2 397 30 426 lk397_30)) ?_
      refine e_ld (pc' := 251) i153_249 rfl rfl ?_
      refine e_al (n := k6) (w := .int (gI h 426 k6)) (pc' := 252) i153_251 rfl (x_alE (a := 20) (by decide) hw.1 sh426 (by decide) e7 g8 (by decide)) (x_clE e7 g8 (by decide)) rfl ?_
      refine e_ld (pc' := 253) i153_252 rfl rfl ?_
      refine e_get (w := .ref 426) (pc' := 256) i153_253 rfl (x_isC (by decide) hw.1 sh397) (x_fvR (by decide +kernel) (hw.2 397 30 426 lk397_30)) ?_
      refine e_ld (pc' := 258) i153_256 rfl rfl ?_
      refine e_cn (pc' := 259) i153_258 rfl ?_
      refine e_ib (z := ((576 * l1) + (4 * l7)) + 1) (pc' := 260) i153_259 rfl rfl ?_
      obtain ⟨k14, e15, g16, H⟩ := H
      refine e_al (n := k14) (w := .int (gI h 426 k14)) (pc' := 261) i153_260 rfl (x_alE (a := 20) (by decide) hw.1 sh426 (by decide) e15 g16 (by decide)) (x_clE e15 g16 (by decide)) rfl ?_
      refine e_ld (pc' := 262) i153_261 rfl rfl ?_
      refine e_cI (w := .int (tsd (gI h 426 k6) (gI h 426 k14) l3)) (As := [.int (gI h 426 k6), .int (gI h 426 k14), .int l3]) (rest := [.int (gI h 426 k6), .int r13, .ref 397]) (pc' := 265) i153_262 rfl rfl rfl rfl rfl m150 ?_
      refine e_ld (pc' := 266) i153_265 rfl rfl ?_
      refine e_get (w := .ref 426) (pc' := 269) i153_266 rfl (x_isC (by decide) hw.1 sh397) (x_fvR (by decide +kernel) (hw.2 397 30 426 lk397_30)) ?_
      refine e_ld (pc' := 271) i153_269 rfl rfl ?_
      refine e_cn (pc' := 272) i153_271 rfl ?_
      refine e_ib (z := ((576 * l1) + (4 * l7)) + 2) (pc' := 273) i153_272 rfl rfl ?_
      obtain ⟨k17, e18, g19, H⟩ := H
      refine e_al (n := k17) (w := .int (gI h 426 k17)) (pc' := 274) i153_273 rfl (x_alE (a := 20) (by decide) hw.1 sh426 (by decide) e18 g19 (by decide)) (x_clE e18 g19 (by decide)) rfl ?_
      refine e_ld (pc' := 275) i153_274 rfl rfl ?_
      refine e_get (w := .ref 426) (pc' := 278) i153_275 rfl (x_isC (by decide) hw.1 sh397) (x_fvR (by decide +kernel) (hw.2 397 30 426 lk397_30)) ?_
      refine e_ld (pc' := 280) i153_278 rfl rfl ?_
      refine e_cn (pc' := 281) i153_280 rfl ?_
      refine e_ib (z := ((576 * l1) + (4 * l7)) + 3) (pc' := 282) i153_281 rfl rfl ?_
      obtain ⟨k20, e21, g22, H⟩ := H
      refine e_al (n := k20) (w := .int (gI h 426 k20)) (pc' := 283) i153_282 rfl (x_alE (a := 20) (by decide) hw.1 sh426 (by decide) e21 g22 (by decide)) (x_clE e21 g22 (by decide)) rfl ?_
      obtain ⟨h23, s24, H⟩ := H
      have w26q := HW_sp (show x_okm 133 = true by rfl) s24 hw
      have w26 : HW h23 := w26q.1
      refine e_cV (As := [.ref 397, .int r13, .int (gI h 426 k6), .int (tsd (gI h 426 k6) (gI h 426 k14) l3), .int (gI h 426 k17), .int (gI h 426 k20)]) (rest := []) (pc' := 286) i153_283 rfl rfl rfl rfl (by show (Nat.beq (x_kd 133) 0 && x_is 397 _ (MC 133) 0) = true; rw [show x_kd 133 = 0 by decide +kernel, show MC 133 = 11 by decide +kernel, (x_isC (by decide) hw.1 sh397)]; rfl) s24 ?_
      refine e_inc (z := l7 + 1) (ls' := [some (.ref 397), some (.int l1), some (.int l2), some (.int l3), z4, some (.int l5), some (.int l6), some (.int (l7 + 1)), some (.int ((576 * l1) + (4 * l7)))]) (pc' := 289) i153_286 rfl rfl rfl rfl ?_
      refine e_go i153_289 ?_
      exact H
-- FloorTurnModel.partsIn(I)I
set_option maxHeartbeats 8000000 in
set_option maxRecDepth 100000 in
theorem v154 {L : Nat} {xs : Nat → Int32} {Q : Option Value → Hp → Prop} {h : Hp} {x : Int32} (hw : HW h) 
  (H : (((x_isShelf x) = true) → (∃ (r4 : Int32), Sp L xs 152 [.ref 397, .int x] h (some (.int r4)) h ∧ ((r4 = 0) → (∃ (r8 : Int32), Sp L xs 149 [.ref 397, .int x] h (some (.int r8)) h ∧ Q (some (.int r8)) h)) ∧ (¬ (r4 = 0) → (∃ (r12 : Int32) (h10 : Hp), Sp L xs 124 [.ref 397, .int r4] h (some (.int r12)) h10 ∧ Q (some (.int r12)) h10)))) ∧ (¬ ((x_isShelf x) = true) → (∃ (r17 : Int32) (h15 : Hp), Sp L xs 124 [.ref 397, .int (-1)] h (some (.int r17)) h15 ∧ Q (some (.int r17)) h15))) : ∃ r h', Sp L xs 154 [.ref 397, .int x] h r h' ∧ Q r h' := by
  refine sp_ex (ls := [some (.ref 397), some (.int x), none]) rfl ?_
  refine e_ld (pc' := 1) i154_0 rfl rfl ?_
  refine e_cI (w := .int (b2i (x_isShelf x))) (As := [.int x]) (rest := []) (pc' := 4) i154_1 rfl rfl rfl rfl rfl m136 ?_
  refine e_b1 (pc' := 7) i154_4 rfl (fun c1 => ?_) (fun c1 => ?_)
  · have d2 : (x_isShelf x) = true := c1
    replace H := H.1 d2
    refine e_ld (pc' := 14) i154_13 rfl rfl ?_
    refine e_ld (pc' := 15) i154_14 rfl rfl ?_
    obtain ⟨r4, s3, H⟩ := H
    refine e_cI (w := .int r4) (As := [.ref 397, .int x]) (rest := []) (pc' := 18) i154_15 rfl rfl rfl rfl (by show (Nat.beq (x_kd 152) 0 && x_is 397 _ (MC 152) 0) = true; rw [show x_kd 152 = 0 by decide +kernel, show MC 152 = 11 by decide +kernel, (x_isC (by decide) hw.1 sh397)]; rfl) s3 ?_
    refine e_st (ls' := [some (.ref 397), some (.int x), some (.int r4)]) (pc' := 19) i154_18 rfl rfl rfl ?_
    refine e_ld (pc' := 20) i154_19 rfl rfl ?_
    refine e_if (pc' := 23) i154_20 rfl (fun c5 => ?_) (fun c5 => ?_)
    · have d6 : r4 = 0 := (of_decide_eq_true c5)
      replace H := H.1 d6
      refine e_ld (pc' := 32) i154_31 rfl rfl ?_
      refine e_ld (pc' := 33) i154_32 rfl rfl ?_
      obtain ⟨r8, s7, H⟩ := H
      refine e_cI (w := .int r8) (As := [.ref 397, .int x]) (rest := []) (pc' := 36) i154_33 rfl rfl rfl rfl (by show (Nat.beq (x_kd 149) 0 && x_is 397 _ (MC 149) 0) = true; rw [show x_kd 149 = 0 by decide +kernel, show MC 149 = 11 by decide +kernel, (x_isC (by decide) hw.1 sh397)]; rfl) s7 ?_
      refine e_rt i154_36 rfl ?_
      exact H
    · have d9 : ¬ (r4 = 0) := (of_decide_eq_false c5)
      replace H := H.2 d9
      refine e_ld (pc' := 24) i154_23 rfl rfl ?_
      refine e_ld (pc' := 25) i154_24 rfl rfl ?_
      obtain ⟨r12, h10, s11, H⟩ := H
      have w14q := HW_sp (show x_okm 124 = true by rfl) s11 hw
      have w14 : HW h10 := w14q.1
      refine e_cI (w := .int r12) (As := [.ref 397, .int r4]) (rest := []) (pc' := 28) i154_25 rfl rfl rfl rfl (by show (Nat.beq (x_kd 124) 0 && x_is 397 _ (MC 124) 0) = true; rw [show x_kd 124 = 0 by decide +kernel, show MC 124 = 11 by decide +kernel, (x_isC (by decide) hw.1 sh397)]; rfl) s11 ?_
      refine e_go i154_28 ?_
      refine e_rt i154_36 rfl ?_
      exact H
  · have d14 : ¬ ((x_isShelf x) = true) := (show ¬ (x_isShelf x) = true by rw [c1]; decide)
    replace H := H.2 d14
    refine e_ld (pc' := 8) i154_7 rfl rfl ?_
    refine e_cn (pc' := 9) i154_8 rfl ?_
    obtain ⟨r17, h15, s16, H⟩ := H
    have w19q := HW_sp (show x_okm 124 = true by rfl) s16 hw
    have w19 : HW h15 := w19q.1
    refine e_cI (w := .int r17) (As := [.ref 397, .int (-1)]) (rest := []) (pc' := 12) i154_9 rfl rfl rfl rfl (by show (Nat.beq (x_kd 124) 0 && x_is 397 _ (MC 124) 0) = true; rw [show x_kd 124 = 0 by decide +kernel, show MC 124 = 11 by decide +kernel, (x_isC (by decide) hw.1 sh397)]; rfl) s16 ?_
    refine e_rt i154_12 rfl ?_
    exact H
