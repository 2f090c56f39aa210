/-! Conditions of methods (made by wip/whole/vcmake.py). -/
-- FloorTurn.copy(IIIII)I
set_option maxHeartbeats 8000000 in
set_option maxRecDepth 100000 in
theorem v90 {L : Nat} {xs : Nat → Int32} {Q : Option Value → Hp → Prop} {h : Hp} {x : Int32} {y : Int32} {z : Int32} {u : Int32} {v : Int32} (hw : HW h) 
  (H : (((x_isShelf x) = true) → ((((x_isShelf y) = true) → (∃ k10 : Nat, x = nI k10 ∧ k10 < 8 ∧ ∃ k13 : Nat, y = nI k13 ∧ k13 < 8 ∧ (((gI h (155 + 10 * k10) 2) = 2) → (∃ (r20 : Int32) (h18 : Hp), Sp L xs 109 [.ref 0, .int (-2)] h (some (.int r20)) h18 ∧ Q (some (.int r20)) h18)) ∧ (¬ ((gI h (155 + 10 * k10) 2) = 2) → ((((gI h (155 + 10 * k13) 2) = 2) → (∃ (r84 : Int32) (h82 : Hp), Sp L xs 109 [.ref 0, .int (-2)] h (some (.int r84)) h82 ∧ Q (some (.int r84)) h82)) ∧ (¬ ((gI h (155 + 10 * k13) 2) = 2) → ((((if (gI h (155 + 10 * k10) 2) = 1 then (if (gI h (155 + 10 * k13) 2) = 1 then (true) else (false)) else (false)) = true) → ((((gI h ((155 + 10 * k10) + 1) 1) = (gI h ((155 + 10 * k13) + 1) 1)) → (((0 ≤ v) → (∃ (r45 : Int32), Sp L xs 78 [.ref ((155 + 10 * k10) + 1), .int z, .int v] h (some (.int r45)) h ∧ ((r45 = 0) → (∃ (r50 : Int32) (h48 : Hp), Sp L xs 109 [.ref 0, .int (-5)] h (some (.int r50)) h48 ∧ Q (some (.int r50)) h48)) ∧ (¬ (r45 = 0) → (∃ (r54 : Int32), Sp L xs 78 [.ref ((155 + 10 * k13) + 1), .int u, .int v] h (some (.int r54)) h ∧ ((r54 = 0) → (∃ (r69 : Int32) (h67 : Hp), Sp L xs 109 [.ref 0, .int (-5)] h (some (.int r69)) h67 ∧ Q (some (.int r69)) h67)) ∧ (¬ (r54 = 0) → (∃ k57 : Nat, z = nI k57 ∧ ∃ k59 : Nat, u = nI k59 ∧ ∃ k61 : Nat, v = nI k61 ∧ (k57 + k61 ≤ 100) ∧ (k59 + k61 ≤ 100) ∧ Q (some (.int 1)) (hCpy h ((155 + 10 * k10) + 2) ((155 + 10 * k13) + 2) k57 k59 k61))))))) ∧ (¬ (0 ≤ v) → (∃ (r74 : Int32) (h72 : Hp), Sp L xs 109 [.ref 0, .int (-4)] h (some (.int r74)) h72 ∧ Q (some (.int r74)) h72)))) ∧ (¬ ((gI h ((155 + 10 * k10) + 1) 1) = (gI h ((155 + 10 * k13) + 1) 1)) → (∃ (r79 : Int32) (h77 : Hp), Sp L xs 109 [.ref 0, .int (-2)] h (some (.int r79)) h77 ∧ Q (some (.int r79)) h77)))) ∧ (¬ ((if (gI h (155 + 10 * k10) 2) = 1 then (if (gI h (155 + 10 * k13) 2) = 1 then (true) else (false)) else (false)) = true) → (∃ (r37 : Int32) (h35 : Hp), Sp L xs 109 [.ref 0, .int (-3)] h (some (.int r37)) h35 ∧ Q (some (.int r37)) h35)))))))) ∧ (¬ ((x_isShelf y) = true) → (∃ (r89 : Int32) (h87 : Hp), Sp L xs 109 [.ref 0, .int (-1)] h (some (.int r89)) h87 ∧ Q (some (.int r89)) h87)))) ∧ (¬ ((x_isShelf x) = true) → (∃ (r5 : Int32) (h3 : Hp), Sp L xs 109 [.ref 0, .int (-1)] h (some (.int r5)) h3 ∧ Q (some (.int r5)) h3))) : ∃ r h', Sp L xs 90 [.ref 0, .int x, .int y, .int z, .int u, .int v] h r h' ∧ Q r h' := by
  refine sp_ex (ls := [some (.ref 0), some (.int x), some (.int y), some (.int z), some (.int u), some (.int v), none, none, none]) rfl ?_
  refine e_ld (pc' := 1) i90_0 rfl rfl ?_
  refine e_cI (w := .int (b2i (x_isShelf x))) (As := [.int x]) (rest := []) (pc' := 4) i90_1 rfl rfl rfl rfl rfl m116 ?_
  refine e_b0 (pc' := 7) i90_4 rfl (fun c1 => ?_) (fun c1 => ?_)
  · have d2 : ¬ ((x_isShelf x) = true) := (show ¬ (x_isShelf x) = true by rw [c1]; decide)
    replace H := H.2 d2
    refine e_ld (pc' := 15) i90_14 rfl rfl ?_
    refine e_cn (pc' := 16) i90_15 rfl ?_
    obtain ⟨r5, h3, s4, H⟩ := H
    have w7q := HW_sp (show x_okm 109 = true by rfl) s4 hw
    have w7 : HW h3 := w7q.1
    refine e_cI (w := .int r5) (As := [.ref 0, .int (-1)]) (rest := []) (pc' := 19) i90_16 rfl rfl rfl rfl (by show (Nat.beq (x_kd 109) 0 && x_is 0 _ (MC 109) 0) = true; rw [show x_kd 109 = 0 by decide +kernel, show MC 109 = 10 by decide +kernel, (x_isC (by decide) hw.1 sh0)]; rfl) s4 ?_
    refine e_rt i90_19 rfl ?_
    exact H
  · have d7 : (x_isShelf x) = true := c1
    replace H := H.1 d7
    refine e_ld (pc' := 8) i90_7 rfl rfl ?_
    refine e_cI (w := .int (b2i (x_isShelf y))) (As := [.int y]) (rest := []) (pc' := 11) i90_8 rfl rfl rfl rfl rfl m116 ?_
    refine e_b1 (pc' := 14) i90_11 rfl (fun c8 => ?_) (fun c8 => ?_)
    · have d9 : (x_isShelf y) = true := c8
      replace H := H.1 d9
      refine e_ld (pc' := 21) i90_20 rfl rfl ?_
      refine e_get (w := .ref 154) (pc' := 24) i90_21 rfl (x_isC (by decide) hw.1 sh0) (x_fvR (by decide +kernel) (hw.2 0 3 154 lk0_3)) ?_
      refine e_ld (pc' := 25) i90_24 rfl rfl ?_
      obtain ⟨k10, e11, g12, H⟩ := H
      refine e_al (n := k10) (w := .ref (155 + 10 * k10)) (pc' := 26) i90_25 rfl (x_alE (a := 23) (by decide) hw.1 sh154 (by decide) e11 g12 (by decide)) (x_clE e11 g12 (by decide)) (x_agR (hw.2 _ _ _ (LK_s g12))) ?_
      refine e_st (ls' := [some (.ref 0), some (.int x), some (.int y), some (.int z), some (.int u), some (.int v), some (.ref (155 + 10 * k10)), none, none]) (pc' := 28) i90_26 rfl rfl rfl ?_
      refine e_ld (pc' := 29) i90_28 rfl rfl ?_
      refine e_get (w := .ref 154) (pc' := 32) i90_29 rfl (x_isC (by decide) hw.1 sh0) (x_fvR (by decide +kernel) (hw.2 0 3 154 lk0_3)) ?_
      refine e_ld (pc' := 33) i90_32 rfl rfl ?_
      obtain ⟨k13, e14, g15, H⟩ := H
      refine e_al (n := k13) (w := .ref (155 + 10 * k13)) (pc' := 34) i90_33 rfl (x_alE (a := 23) (by decide) hw.1 sh154 (by decide) e14 g15 (by decide)) (x_clE e14 g15 (by decide)) (x_agR (hw.2 _ _ _ (LK_s g15))) ?_
      refine e_st (ls' := [some (.ref 0), some (.int x), some (.int y), some (.int z), some (.int u), some (.int v), some (.ref (155 + 10 * k10)), some (.ref (155 + 10 * k13)), none]) (pc' := 36) i90_34 rfl rfl rfl ?_
      refine e_ld (pc' := 38) i90_36 rfl rfl ?_
      refine e_get (w := .int (gI h (155 + 10 * k10) 2)) (pc' := 41) i90_38 rfl (x_isB0 (SB_of g12) hw.1) rfl ?_
      refine e_cn (pc' := 42) i90_41 rfl ?_
      refine e_ic (pc' := 45) i90_42 rfl (fun c16 => ?_) (fun c16 => ?_)
      · have d17 : (gI h (155 + 10 * k10) 2) = 2 := (of_decide_eq_true c16)
        replace H := H.1 d17
        refine e_ld (pc' := 55) i90_54 rfl rfl ?_
        refine e_cn (pc' := 57) i90_55 rfl ?_
        obtain ⟨r20, h18, s19, H⟩ := H
        have w22q := HW_sp (show x_okm 109 = true by rfl) s19 hw
        have w22 : HW h18 := w22q.1
        refine e_cI (w := .int r20) (As := [.ref 0, .int (-2)]) (rest := []) (pc' := 60) i90_57 rfl rfl rfl rfl (by show (Nat.beq (x_kd 109) 0 && x_is 0 _ (MC 109) 0) = true; rw [show x_kd 109 = 0 by decide +kernel, show MC 109 = 10 by decide +kernel, (x_isC (by decide) hw.1 sh0)]; rfl) s19 ?_
        refine e_rt i90_60 rfl ?_
        exact H
      · have d22 : ¬ ((gI h (155 + 10 * k10) 2) = 2) := (of_decide_eq_false c16)
        replace H := H.2 d22
        refine e_ld (pc' := 47) i90_45 rfl rfl ?_
        refine e_get (w := .int (gI h (155 + 10 * k13) 2)) (pc' := 50) i90_47 rfl (x_isB0 (SB_of g15) hw.1) rfl ?_
        refine e_cn (pc' := 51) i90_50 rfl ?_
        refine e_ic (pc' := 54) i90_51 rfl (fun c23 => ?_) (fun c23 => ?_)
        · have d24 : ¬ ((gI h (155 + 10 * k13) 2) = 2) := (of_decide_eq_true c23)
          replace H := H.2 d24
          refine e_ld (pc' := 63) i90_61 rfl rfl ?_
          refine e_get (w := .int (gI h (155 + 10 * k10) 2)) (pc' := 66) i90_63 rfl (x_isB0 (SB_of g12) hw.1) rfl ?_
          refine e_cn (pc' := 67) i90_66 rfl ?_
          refine e_reg (pc' := 84) (ls' := [some (.ref 0), some (.int x), some (.int y), some (.int z), some (.int u), some (.int v), some (.ref (155 + 10 * k10)), some (.ref (155 + 10 * k13)), none]) (st' := [.int (b2i (if (gI h (155 + 10 * k10) 2) = 1 then (if (gI h (155 + 10 * k13) 2) = 1 then (true) else (false)) else (false)))]) (fun kj25 => ?_) ?_
          · skip
            refine e_ic (pc' := 70) i90_67 rfl (fun c26 => ?_) (fun c26 => ?_)
            · have d27 : ¬ ((gI h (155 + 10 * k10) 2) = 1) := (of_decide_eq_true c26)
              refine e_cn (pc' := 84) i90_83 rfl ?_
              exact (by simp only [if_neg d27] at kj25 ⊢; exact kj25)
            · have d28 : (gI h (155 + 10 * k10) 2) = 1 := (Decidable.not_not.mp (of_decide_eq_false c26))
              refine e_ld (pc' := 72) i90_70 rfl rfl ?_
              refine e_get (w := .int (gI h (155 + 10 * k13) 2)) (pc' := 75) i90_72 rfl (x_isB0 (SB_of g15) hw.1) rfl ?_
              refine e_cn (pc' := 76) i90_75 rfl ?_
              refine e_reg (pc' := 84) (ls' := [some (.ref 0), some (.int x), some (.int y), some (.int z), some (.int u), some (.int v), some (.ref (155 + 10 * k10)), some (.ref (155 + 10 * k13)), none]) (st' := [.int (b2i (if (gI h (155 + 10 * k13) 2) = 1 then (true) else (false)))]) (fun kj29 => ?_) ?_
              · skip
                refine e_ic (pc' := 79) i90_76 rfl (fun c30 => ?_) (fun c30 => ?_)
                · have d31 : ¬ ((gI h (155 + 10 * k13) 2) = 1) := (of_decide_eq_true c30)
                  refine e_cn (pc' := 84) i90_83 rfl ?_
                  exact (by simp only [if_neg d31] at kj29 ⊢; exact kj29)
                · have d32 : (gI h (155 + 10 * k13) 2) = 1 := (Decidable.not_not.mp (of_decide_eq_false c30))
                  refine e_cn (pc' := 80) i90_79 rfl ?_
                  refine e_go i90_80 ?_
                  exact (by simp only [if_pos d32] at kj29 ⊢; exact kj29)
              exact (by simp only [if_pos d28] at kj25 ⊢; exact kj25)
          refine e_st (ls' := [some (.ref 0), some (.int x), some (.int y), some (.int z), some (.int u), some (.int v), some (.ref (155 + 10 * k10)), some (.ref (155 + 10 * k13)), some (.int (b2i (if (gI h (155 + 10 * k10) 2) = 1 then (if (gI h (155 + 10 * k13) 2) = 1 then (true) else (false)) else (false))))]) (pc' := 86) i90_84 rfl rfl rfl ?_
          refine e_ld (pc' := 88) i90_86 rfl rfl ?_
          refine e_b0 (pc' := 91) i90_88 rfl (fun c33 => ?_) (fun c33 => ?_)
          · have d34 : ¬ ((if (gI h (155 + 10 * k10) 2) = 1 then (if (gI h (155 + 10 * k13) 2) = 1 then (true) else (false)) else (false)) = true) := (show ¬ (if (gI h (155 + 10 * k10) 2) = 1 then (if (gI h (155 + 10 * k13) 2) = 1 then (true) else (false)) else (false)) = true by rw [c33]; decide)
            replace H := H.2 d34
            refine e_ld (pc' := 119) i90_117 rfl rfl ?_
            refine e_ifF (pc' := 122) i90_119 rfl (by rw [(Bool.not_eq_true _ ▸ d34 : (if (gI h (155 + 10 * k10) 2) = 1 then (if (gI h (155 + 10 * k13) 2) = 1 then (true) else (false)) else (false)) = false)]; rfl) ?_
            refine e_ld (pc' := 123) i90_122 rfl rfl ?_
            refine e_cn (pc' := 125) i90_123 rfl ?_
            obtain ⟨r37, h35, s36, H⟩ := H
            have w39q := HW_sp (show x_okm 109 = true by rfl) s36 hw
            have w39 : HW h35 := w39q.1
            refine e_cI (w := .int r37) (As := [.ref 0, .int (-3)]) (rest := []) (pc' := 128) i90_125 rfl rfl rfl rfl (by show (Nat.beq (x_kd 109) 0 && x_is 0 _ (MC 109) 0) = true; rw [show x_kd 109 = 0 by decide +kernel, show MC 109 = 10 by decide +kernel, (x_isC (by decide) hw.1 sh0)]; rfl) s36 ?_
            refine e_rt i90_128 rfl ?_
            exact H
          · have d39 : (if (gI h (155 + 10 * k10) 2) = 1 then (if (gI h (155 + 10 * k13) 2) = 1 then (true) else (false)) else (false)) = true := c33
            replace H := H.1 d39
            refine e_ld (pc' := 93) i90_91 rfl rfl ?_
            refine e_get (w := .ref ((155 + 10 * k10) + 1)) (pc' := 96) i90_93 rfl (x_isB0 (SB_of g12) hw.1) (x_fvR (by decide +kernel) (hw.2 _ _ _ (SB_lk0_0 (SB_of g12)))) ?_
            refine e_get (w := .int (gI h ((155 + 10 * k10) + 1) 1)) (pc' := 99) i90_96 rfl (x_isB1 (SB_of g12) hw.1) rfl ?_
            refine e_ld (pc' := 101) i90_99 rfl rfl ?_
            refine e_get (w := .ref ((155 + 10 * k13) + 1)) (pc' := 104) i90_101 rfl (x_isB0 (SB_of g15) hw.1) (x_fvR (by decide +kernel) (hw.2 _ _ _ (SB_lk0_0 (SB_of g15)))) ?_
            refine e_get (w := .int (gI h ((155 + 10 * k13) + 1) 1)) (pc' := 107) i90_104 rfl (x_isB1 (SB_of g15) hw.1) rfl ?_
            refine e_ic (pc' := 110) i90_107 rfl (fun c40 => ?_) (fun c40 => ?_)
            · have d41 : (gI h ((155 + 10 * k10) + 1) 1) = (gI h ((155 + 10 * k13) + 1) 1) := (of_decide_eq_true c40)
              replace H := H.1 d41
              refine e_ld (pc' := 119) i90_117 rfl rfl ?_
              refine e_ifT i90_119 (by rw [d39]; rfl) ?_
              refine e_ld (pc' := 131) i90_129 rfl rfl ?_
              refine e_if (pc' := 134) i90_131 rfl (fun c42 => ?_) (fun c42 => ?_)
              · have d43 : 0 ≤ v := (of_decide_eq_true c42)
                replace H := H.1 d43
                refine e_ld (pc' := 143) i90_141 rfl rfl ?_
                refine e_get (w := .ref ((155 + 10 * k10) + 1)) (pc' := 146) i90_143 rfl (x_isB0 (SB_of g12) hw.1) (x_fvR (by decide +kernel) (hw.2 _ _ _ (SB_lk0_0 (SB_of g12)))) ?_
                refine e_ld (pc' := 147) i90_146 rfl rfl ?_
                refine e_ld (pc' := 149) i90_147 rfl rfl ?_
                obtain ⟨r45, s44, H⟩ := H
                refine e_cI (w := .int r45) (As := [.ref ((155 + 10 * k10) + 1), .int z, .int v]) (rest := []) (pc' := 152) i90_149 rfl rfl rfl rfl (by show (Nat.beq (x_kd 78) 0 && x_is ((155 + 10 * k10) + 1) _ (MC 78) 0) = true; rw [show x_kd 78 = 0 by decide +kernel, show MC 78 = 8 by decide +kernel, (x_isB1 (SB_of g12) hw.1)]; rfl) s44 ?_
                refine e_if (pc' := 155) i90_152 rfl (fun c46 => ?_) (fun c46 => ?_)
                · have d47 : r45 = 0 := (of_decide_eq_true c46)
                  replace H := H.1 d47
                  refine e_ld (pc' := 171) i90_170 rfl rfl ?_
                  refine e_cn (pc' := 173) i90_171 rfl ?_
                  obtain ⟨r50, h48, s49, H⟩ := H
                  have w52q := HW_sp (show x_okm 109 = true by rfl) s49 hw
                  have w52 : HW h48 := w52q.1
                  refine e_cI (w := .int r50) (As := [.ref 0, .int (-5)]) (rest := []) (pc' := 176) i90_173 rfl rfl rfl rfl (by show (Nat.beq (x_kd 109) 0 && x_is 0 _ (MC 109) 0) = true; rw [show x_kd 109 = 0 by decide +kernel, show MC 109 = 10 by decide +kernel, (x_isC (by decide) hw.1 sh0)]; rfl) s49 ?_
                  refine e_rt i90_176 rfl ?_
                  exact H
                · have d52 : ¬ (r45 = 0) := (of_decide_eq_false c46)
                  replace H := H.2 d52
                  refine e_ld (pc' := 157) i90_155 rfl rfl ?_
                  refine e_get (w := .ref ((155 + 10 * k13) + 1)) (pc' := 160) i90_157 rfl (x_isB0 (SB_of g15) hw.1) (x_fvR (by decide +kernel) (hw.2 _ _ _ (SB_lk0_0 (SB_of g15)))) ?_
                  refine e_ld (pc' := 162) i90_160 rfl rfl ?_
                  refine e_ld (pc' := 164) i90_162 rfl rfl ?_
                  obtain ⟨r54, s53, H⟩ := H
                  refine e_cI (w := .int r54) (As := [.ref ((155 + 10 * k13) + 1), .int u, .int v]) (rest := []) (pc' := 167) i90_164 rfl rfl rfl rfl (by show (Nat.beq (x_kd 78) 0 && x_is ((155 + 10 * k13) + 1) _ (MC 78) 0) = true; rw [show x_kd 78 = 0 by decide +kernel, show MC 78 = 8 by decide +kernel, (x_isB1 (SB_of g15) hw.1)]; rfl) s53 ?_
                  refine e_if (pc' := 170) i90_167 rfl (fun c55 => ?_) (fun c55 => ?_)
                  · have d56 : ¬ (r54 = 0) := (of_decide_eq_true c55)
                    replace H := H.2 d56
                    refine e_ld (pc' := 179) i90_177 rfl rfl ?_
                    refine e_get (w := .ref ((155 + 10 * k10) + 1)) (pc' := 182) i90_179 rfl (x_isB0 (SB_of g12) hw.1) (x_fvR (by decide +kernel) (hw.2 _ _ _ (SB_lk0_0 (SB_of g12)))) ?_
                    refine e_get (w := .ref ((155 + 10 * k10) + 2)) (pc' := 185) i90_182 rfl (x_isB1 (SB_of g12) hw.1) (x_fvR (by decide +kernel) (hw.2 _ _ _ (SB_lk1_0 (SB_of g12)))) ?_
                    refine e_ld (pc' := 186) i90_185 rfl rfl ?_
                    refine e_ld (pc' := 188) i90_186 rfl rfl ?_
                    refine e_get (w := .ref ((155 + 10 * k13) + 1)) (pc' := 191) i90_188 rfl (x_isB0 (SB_of g15) hw.1) (x_fvR (by decide +kernel) (hw.2 _ _ _ (SB_lk0_0 (SB_of g15)))) ?_
                    refine e_get (w := .ref ((155 + 10 * k13) + 2)) (pc' := 194) i90_191 rfl (x_isB1 (SB_of g15) hw.1) (x_fvR (by decide +kernel) (hw.2 _ _ _ (SB_lk1_0 (SB_of g15)))) ?_
                    refine e_ld (pc' := 196) i90_194 rfl rfl ?_
                    refine e_ld (pc' := 198) i90_196 rfl rfl ?_
                    obtain ⟨k57, e58, H⟩ := H
                    obtain ⟨k59, e60, H⟩ := H
                    obtain ⟨k61, e62, H⟩ := H
                    obtain ⟨g63, H⟩ := H
                    obtain ⟨g64, H⟩ := H
                    refine e_cpy (st := []) (h' := hCpy h ((155 + 10 * k10) + 2) ((155 + 10 * k13) + 2) k57 k59 k61) (pc' := 201) i90_198 rfl rfl (x_isA (SB_lt2 (SB_of g12)) hw.1 (SB_sh2 (SB_of g12))) (x_isA (SB_lt2 (SB_of g15)) hw.1 (SB_sh2 (SB_of g15))) (SB_sh2 (SB_of g12)) (SB_sh2 (SB_of g15)) e58 e60 e62 g63 g64 rfl ?_
                    have w66 : HW (hCpy h ((155 + 10 * k10) + 2) ((155 + 10 * k13) + 2) k57 k59 k61) := HW_hCpy hw
                    refine e_cn (pc' := 202) i90_201 rfl ?_
                    refine e_rt i90_202 rfl ?_
                    exact H
                  · have d66 : r54 = 0 := (Decidable.not_not.mp (of_decide_eq_false c55))
                    replace H := H.1 d66
                    refine e_ld (pc' := 171) i90_170 rfl rfl ?_
                    refine e_cn (pc' := 173) i90_171 rfl ?_
                    obtain ⟨r69, h67, s68, H⟩ := H
                    have w71q := HW_sp (show x_okm 109 = true by rfl) s68 hw
                    have w71 : HW h67 := w71q.1
                    refine e_cI (w := .int r69) (As := [.ref 0, .int (-5)]) (rest := []) (pc' := 176) i90_173 rfl rfl rfl rfl (by show (Nat.beq (x_kd 109) 0 && x_is 0 _ (MC 109) 0) = true; rw [show x_kd 109 = 0 by decide +kernel, show MC 109 = 10 by decide +kernel, (x_isC (by decide) hw.1 sh0)]; rfl) s68 ?_
                    refine e_rt i90_176 rfl ?_
                    exact H
              · have d71 : ¬ (0 ≤ v) := (of_decide_eq_false c42)
                replace H := H.2 d71
                refine e_ld (pc' := 135) i90_134 rfl rfl ?_
                refine e_cn (pc' := 137) i90_135 rfl ?_
                obtain ⟨r74, h72, s73, H⟩ := H
                have w76q := HW_sp (show x_okm 109 = true by rfl) s73 hw
                have w76 : HW h72 := w76q.1
                refine e_cI (w := .int r74) (As := [.ref 0, .int (-4)]) (rest := []) (pc' := 140) i90_137 rfl rfl rfl rfl (by show (Nat.beq (x_kd 109) 0 && x_is 0 _ (MC 109) 0) = true; rw [show x_kd 109 = 0 by decide +kernel, show MC 109 = 10 by decide +kernel, (x_isC (by decide) hw.1 sh0)]; rfl) s73 ?_
                refine e_rt i90_140 rfl ?_
                exact H
            · have d76 : ¬ ((gI h ((155 + 10 * k10) + 1) 1) = (gI h ((155 + 10 * k13) + 1) 1)) := (of_decide_eq_false c40)
              replace H := H.2 d76
              refine e_ld (pc' := 111) i90_110 rfl rfl ?_
              refine e_cn (pc' := 113) i90_111 rfl ?_
              obtain ⟨r79, h77, s78, H⟩ := H
              have w81q := HW_sp (show x_okm 109 = true by rfl) s78 hw
              have w81 : HW h77 := w81q.1
              refine e_cI (w := .int r79) (As := [.ref 0, .int (-2)]) (rest := []) (pc' := 116) i90_113 rfl rfl rfl rfl (by show (Nat.beq (x_kd 109) 0 && x_is 0 _ (MC 109) 0) = true; rw [show x_kd 109 = 0 by decide +kernel, show MC 109 = 10 by decide +kernel, (x_isC (by decide) hw.1 sh0)]; rfl) s78 ?_
              refine e_rt i90_116 rfl ?_
              exact H
        · have d81 : (gI h (155 + 10 * k13) 2) = 2 := (Decidable.not_not.mp (of_decide_eq_false c23))
          replace H := H.1 d81
          refine e_ld (pc' := 55) i90_54 rfl rfl ?_
          refine e_cn (pc' := 57) i90_55 rfl ?_
          obtain ⟨r84, h82, s83, H⟩ := H
          have w86q := HW_sp (show x_okm 109 = true by rfl) s83 hw
          have w86 : HW h82 := w86q.1
          refine e_cI (w := .int r84) (As := [.ref 0, .int (-2)]) (rest := []) (pc' := 60) i90_57 rfl rfl rfl rfl (by show (Nat.beq (x_kd 109) 0 && x_is 0 _ (MC 109) 0) = true; rw [show x_kd 109 = 0 by decide +kernel, show MC 109 = 10 by decide +kernel, (x_isC (by decide) hw.1 sh0)]; rfl) s83 ?_
          refine e_rt i90_60 rfl ?_
          exact H
    · have d86 : ¬ ((x_isShelf y) = true) := (show ¬ (x_isShelf y) = true by rw [c8]; decide)
      replace H := H.2 d86
      refine e_ld (pc' := 15) i90_14 rfl rfl ?_
      refine e_cn (pc' := 16) i90_15 rfl ?_
      obtain ⟨r89, h87, s88, H⟩ := H
      have w91q := HW_sp (show x_okm 109 = true by rfl) s88 hw
      have w91 : HW h87 := w91q.1
      refine e_cI (w := .int r89) (As := [.ref 0, .int (-1)]) (rest := []) (pc' := 19) i90_16 rfl rfl rfl rfl (by show (Nat.beq (x_kd 109) 0 && x_is 0 _ (MC 109) 0) = true; rw [show x_kd 109 = 0 by decide +kernel, show MC 109 = 10 by decide +kernel, (x_isC (by decide) hw.1 sh0)]; rfl) s88 ?_
      refine e_rt i90_19 rfl ?_
      exact H
-- FloorTurn.element(II)J
set_option maxHeartbeats 8000000 in
set_option maxRecDepth 100000 in
theorem v91 {L : Nat} {xs : Nat → Int32} {Q : Option Value → Hp → Prop} {h : Hp} {x : Int32} {y : Int32} (hw : HW h) 
  (H : (((x_isShelf x) = true) → (∃ k4 : Nat, x = nI k4 ∧ k4 < 8 ∧ (((gI h (155 + 10 * k4) 2) = 1) → (∃ (r11 : Int32), Sp L xs 78 [.ref ((155 + 10 * k4) + 1), .int y, .int 1] h (some (.int r11)) h ∧ ((r11 = 0) → (Q (some (.long 0)) h)) ∧ (¬ (r11 = 0) → (∃ k14 : Nat, y = nI k14 ∧ k14 < 100 ∧ Q (some (.long (gL h ((155 + 10 * k4) + 2) k14))) h)))) ∧ (¬ ((gI h (155 + 10 * k4) 2) = 1) → (Q (some (.long 0)) h)))) ∧ (¬ ((x_isShelf x) = true) → (Q (some (.long 0)) h))) : ∃ r h', Sp L xs 91 [.ref 0, .int x, .int y] h r h' ∧ Q r h' := by
  refine sp_ex (ls := [some (.ref 0), some (.int x), some (.int y)]) rfl ?_
  refine e_ld (pc' := 1) i91_0 rfl rfl ?_
  refine e_cI (w := .int (b2i (x_isShelf x))) (As := [.int x]) (rest := []) (pc' := 4) i91_1 rfl rfl rfl rfl rfl m116 ?_
  refine e_b0 (pc' := 7) i91_4 rfl (fun c1 => ?_) (fun c1 => ?_)
  · have d2 : ¬ ((x_isShelf x) = true) := (show ¬ (x_isShelf x) = true by rw [c1]; decide)
    replace H := H.2 d2
    refine e_cn (pc' := 38) i91_37 rfl ?_
    refine e_rt i91_38 rfl ?_
    exact H
  · have d3 : (x_isShelf x) = true := c1
    replace H := H.1 d3
    refine e_ld (pc' := 8) i91_7 rfl rfl ?_
    refine e_get (w := .ref 154) (pc' := 11) i91_8 rfl (x_isC (by decide) hw.1 sh0) (x_fvR (by decide +kernel) (hw.2 0 3 154 lk0_3)) ?_
    refine e_ld (pc' := 12) i91_11 rfl rfl ?_
    obtain ⟨k4, e5, g6, H⟩ := H
    refine e_al (n := k4) (w := .ref (155 + 10 * k4)) (pc' := 13) i91_12 rfl (x_alE (a := 23) (by decide) hw.1 sh154 (by decide) e5 g6 (by decide)) (x_clE e5 g6 (by decide)) (x_agR (hw.2 _ _ _ (LK_s g6))) ?_
    refine e_get (w := .int (gI h (155 + 10 * k4) 2)) (pc' := 16) i91_13 rfl (x_isB0 (SB_of g6) hw.1) rfl ?_
    refine e_cn (pc' := 17) i91_16 rfl ?_
    refine e_ic (pc' := 20) i91_17 rfl (fun c7 => ?_) (fun c7 => ?_)
    · have d8 : ¬ ((gI h (155 + 10 * k4) 2) = 1) := (of_decide_eq_true c7)
      replace H := H.2 d8
      refine e_cn (pc' := 38) i91_37 rfl ?_
      refine e_rt i91_38 rfl ?_
      exact H
    · have d9 : (gI h (155 + 10 * k4) 2) = 1 := (Decidable.not_not.mp (of_decide_eq_false c7))
      replace H := H.1 d9
      refine e_ld (pc' := 21) i91_20 rfl rfl ?_
      refine e_get (w := .ref 154) (pc' := 24) i91_21 rfl (x_isC (by decide) hw.1 sh0) (x_fvR (by decide +kernel) (hw.2 0 3 154 lk0_3)) ?_
      refine e_ld (pc' := 25) i91_24 rfl rfl ?_
      refine e_al (n := k4) (w := .ref (155 + 10 * k4)) (pc' := 26) i91_25 rfl (x_alE (a := 23) (by decide) hw.1 sh154 (by decide) e5 g6 (by decide)) (x_clE e5 g6 (by decide)) (x_agR (hw.2 _ _ _ (LK_s g6))) ?_
      refine e_get (w := .ref ((155 + 10 * k4) + 1)) (pc' := 29) i91_26 rfl (x_isB0 (SB_of g6) hw.1) (x_fvR (by decide +kernel) (hw.2 _ _ _ (SB_lk0_0 (SB_of g6)))) ?_
      refine e_ld (pc' := 30) i91_29 rfl rfl ?_
      refine e_cn (pc' := 31) i91_30 rfl ?_
      obtain ⟨r11, s10, H⟩ := H
      refine e_cI (w := .int r11) (As := [.ref ((155 + 10 * k4) + 1), .int y, .int 1]) (rest := []) (pc' := 34) i91_31 rfl rfl rfl rfl (by show (Nat.beq (x_kd 78) 0 && x_is ((155 + 10 * k4) + 1) _ (MC 78) 0) = true; rw [show x_kd 78 = 0 by decide +kernel, show MC 78 = 8 by decide +kernel, (x_isB1 (SB_of g6) hw.1)]; rfl) s10 ?_
      refine e_if (pc' := 37) i91_34 rfl (fun c12 => ?_) (fun c12 => ?_)
      · have d13 : ¬ (r11 = 0) := (of_decide_eq_true c12)
        replace H := H.2 d13
        refine e_ld (pc' := 40) i91_39 rfl rfl ?_
        refine e_get (w := .ref 154) (pc' := 43) i91_40 rfl (x_isC (by decide) hw.1 sh0) (x_fvR (by decide +kernel) (hw.2 0 3 154 lk0_3)) ?_
        refine e_ld (pc' := 44) i91_43 rfl rfl ?_
        refine e_al (n := k4) (w := .ref (155 + 10 * k4)) (pc' := 45) i91_44 rfl (x_alE (a := 23) (by decide) hw.1 sh154 (by decide) e5 g6 (by decide)) (x_clE e5 g6 (by decide)) (x_agR (hw.2 _ _ _ (LK_s g6))) ?_
        refine e_get (w := .ref ((155 + 10 * k4) + 1)) (pc' := 48) i91_45 rfl (x_isB0 (SB_of g6) hw.1) (x_fvR (by decide +kernel) (hw.2 _ _ _ (SB_lk0_0 (SB_of g6)))) ?_
        refine e_get (w := .ref ((155 + 10 * k4) + 2)) (pc' := 51) i91_48 rfl (x_isB1 (SB_of g6) hw.1) (x_fvR (by decide +kernel) (hw.2 _ _ _ (SB_lk1_0 (SB_of g6)))) ?_
        refine e_ld (pc' := 52) i91_51 rfl rfl ?_
        obtain ⟨k14, e15, g16, H⟩ := H
        refine e_al (n := k14) (w := .long (gL h ((155 + 10 * k4) + 2) k14)) (pc' := 53) i91_52 rfl (x_alE (a := 21) (SB_lt2 (SB_of g6)) hw.1 (SB_sh2 (SB_of g6)) (by decide) e15 g16 (by decide)) (x_clE e15 g16 (by decide)) rfl ?_
        refine e_rt i91_53 rfl ?_
        exact H
      · have d17 : r11 = 0 := (Decidable.not_not.mp (of_decide_eq_false c12))
        replace H := H.1 d17
        refine e_cn (pc' := 38) i91_37 rfl ?_
        refine e_rt i91_38 rfl ?_
        exact H
-- FloorTurn.clear(I)I
set_option maxHeartbeats 8000000 in
set_option maxRecDepth 100000 in
theorem v92 {L : Nat} {xs : Nat → Int32} {Q : Option Value → Hp → Prop} {h : Hp} {x : Int32} (hw : HW h) 
  (H : (((x_isShelf x) = true) → (∃ k3 : Nat, x = nI k3 ∧ k3 < 8 ∧ Q (some (.int (b2i (if (gI h (155 + 10 * k3) 2) = 0 then (false) else (true))))) (sI h (155 + 10 * k3) 2 0))) ∧ (¬ ((x_isShelf x) = true) → (∃ (r14 : Int32) (h12 : Hp), Sp L xs 109 [.ref 0, .int (-1)] h (some (.int r14)) h12 ∧ Q (some (.int r14)) h12))) : ∃ r h', Sp L xs 92 [.ref 0, .int x] h r h' ∧ Q r h' := by
  refine sp_ex (ls := [some (.ref 0), some (.int x), none]) rfl ?_
  refine e_ld (pc' := 1) i92_0 rfl rfl ?_
  refine e_cI (w := .int (b2i (x_isShelf x))) (As := [.int x]) (rest := []) (pc' := 4) i92_1 rfl rfl rfl rfl rfl m116 ?_
  refine e_b1 (pc' := 7) i92_4 rfl (fun c1 => ?_) (fun c1 => ?_)
  · have d2 : (x_isShelf x) = true := c1
    replace H := H.1 d2
    refine e_ld (pc' := 14) i92_13 rfl rfl ?_
    refine e_get (w := .ref 154) (pc' := 17) i92_14 rfl (x_isC (by decide) hw.1 sh0) (x_fvR (by decide +kernel) (hw.2 0 3 154 lk0_3)) ?_
    refine e_ld (pc' := 18) i92_17 rfl rfl ?_
    obtain ⟨k3, e4, g5, H⟩ := H
    refine e_al (n := k3) (w := .ref (155 + 10 * k3)) (pc' := 19) i92_18 rfl (x_alE (a := 23) (by decide) hw.1 sh154 (by decide) e4 g5 (by decide)) (x_clE e4 g5 (by decide)) (x_agR (hw.2 _ _ _ (LK_s g5))) ?_
    refine e_get (w := .int (gI h (155 + 10 * k3) 2)) (pc' := 22) i92_19 rfl (x_isB0 (SB_of g5) hw.1) rfl ?_
    refine e_reg (pc' := 30) (ls' := [some (.ref 0), some (.int x), none]) (st' := [.int (b2i (if (gI h (155 + 10 * k3) 2) = 0 then (false) else (true)))]) (fun kj6 => ?_) ?_
    · skip
      refine e_if (pc' := 25) i92_22 rfl (fun c7 => ?_) (fun c7 => ?_)
      · have d8 : ¬ ((gI h (155 + 10 * k3) 2) = 0) := (of_decide_eq_true c7)
        refine e_cn (pc' := 30) i92_29 rfl ?_
        exact (by simp only [if_neg d8] at kj6 ⊢; exact kj6)
      · have d9 : (gI h (155 + 10 * k3) 2) = 0 := (Decidable.not_not.mp (of_decide_eq_false c7))
        refine e_cn (pc' := 26) i92_25 rfl ?_
        refine e_go i92_26 ?_
        exact (by simp only [if_pos d9] at kj6 ⊢; exact kj6)
    refine e_st (ls' := [some (.ref 0), some (.int x), some (.int (b2i (if (gI h (155 + 10 * k3) 2) = 0 then (false) else (true))))]) (pc' := 31) i92_30 rfl rfl rfl ?_
    refine e_ld (pc' := 32) i92_31 rfl rfl ?_
    refine e_get (w := .ref 154) (pc' := 35) i92_32 rfl (x_isC (by decide) hw.1 sh0) (x_fvR (by decide +kernel) (hw.2 0 3 154 lk0_3)) ?_
    refine e_ld (pc' := 36) i92_35 rfl rfl ?_
    refine e_al (n := k3) (w := .ref (155 + 10 * k3)) (pc' := 37) i92_36 rfl (x_alE (a := 23) (by decide) hw.1 sh154 (by decide) e4 g5 (by decide)) (x_clE e4 g5 (by decide)) (x_agR (hw.2 _ _ _ (LK_s g5))) ?_
    refine e_cn (pc' := 38) i92_37 rfl ?_
    refine e_put (h' := sI h (155 + 10 * k3) 2 0) (pc' := 41) i92_38 rfl (x_isB0 (SB_of g5) hw.1) rfl ?_
    have w11 : HW (sI h (155 + 10 * k3) 2 0) := HW_sI hw
    refine e_ld (pc' := 42) i92_41 rfl rfl ?_
    refine e_rt i92_42 rfl ?_
    exact H
  · have d11 : ¬ ((x_isShelf x) = true) := (show ¬ (x_isShelf x) = true by rw [c1]; decide)
    replace H := H.2 d11
    refine e_ld (pc' := 8) i92_7 rfl rfl ?_
    refine e_cn (pc' := 9) i92_8 rfl ?_
    obtain ⟨r14, h12, s13, H⟩ := H
    have w16q := HW_sp (show x_okm 109 = true by rfl) s13 hw
    have w16 : HW h12 := w16q.1
    refine e_cI (w := .int r14) (As := [.ref 0, .int (-1)]) (rest := []) (pc' := 12) i92_9 rfl rfl rfl rfl (by show (Nat.beq (x_kd 109) 0 && x_is 0 _ (MC 109) 0) = true; rw [show x_kd 109 = 0 by decide +kernel, show MC 109 = 10 by decide +kernel, (x_isC (by decide) hw.1 sh0)]; rfl) s13 ?_
    refine e_rt i92_12 rfl ?_
    exact H
-- FloorTurn.holds(I)I
set_option maxHeartbeats 8000000 in
set_option maxRecDepth 100000 in
theorem v93 {L : Nat} {xs : Nat → Int32} {Q : Option Value → Hp → Prop} {h : Hp} {x : Int32} (hw : HW h) 
  (H : (((x_isShelf x) = true) → (∃ k4 : Nat, x = nI k4 ∧ k4 < 8 ∧ (((gI h (155 + 10 * k4) 2) = 0) → (Q (some (.int (-1))) h)) ∧ (¬ ((gI h (155 + 10 * k4) 2) = 0) → ((((gI h (155 + 10 * k4) 2) = 2) → (Q (some (.int 0)) h)) ∧ (¬ ((gI h (155 + 10 * k4) 2) = 2) → (Q (some (.int (100 + (gI h ((155 + 10 * k4) + 1) 1)))) h)))))) ∧ (¬ ((x_isShelf x) = true) → (Q (some (.int (-1))) h))) : ∃ r h', Sp L xs 93 [.ref 0, .int x] h r h' ∧ Q r h' := by
  refine sp_ex (ls := [some (.ref 0), some (.int x)]) rfl ?_
  refine e_ld (pc' := 1) i93_0 rfl rfl ?_
  refine e_cI (w := .int (b2i (x_isShelf x))) (As := [.int x]) (rest := []) (pc' := 4) i93_1 rfl rfl rfl rfl rfl m116 ?_
  refine e_b0 (pc' := 7) i93_4 rfl (fun c1 => ?_) (fun c1 => ?_)
  · have d2 : ¬ ((x_isShelf x) = true) := (show ¬ (x_isShelf x) = true by rw [c1]; decide)
    replace H := H.2 d2
    refine e_cn (pc' := 20) i93_19 rfl ?_
    refine e_rt i93_20 rfl ?_
    exact H
  · have d3 : (x_isShelf x) = true := c1
    replace H := H.1 d3
    refine e_ld (pc' := 8) i93_7 rfl rfl ?_
    refine e_get (w := .ref 154) (pc' := 11) i93_8 rfl (x_isC (by decide) hw.1 sh0) (x_fvR (by decide +kernel) (hw.2 0 3 154 lk0_3)) ?_
    refine e_ld (pc' := 12) i93_11 rfl rfl ?_
    obtain ⟨k4, e5, g6, H⟩ := H
    refine e_al (n := k4) (w := .ref (155 + 10 * k4)) (pc' := 13) i93_12 rfl (x_alE (a := 23) (by decide) hw.1 sh154 (by decide) e5 g6 (by decide)) (x_clE e5 g6 (by decide)) (x_agR (hw.2 _ _ _ (LK_s g6))) ?_
    refine e_get (w := .int (gI h (155 + 10 * k4) 2)) (pc' := 16) i93_13 rfl (x_isB0 (SB_of g6) hw.1) rfl ?_
    refine e_if (pc' := 19) i93_16 rfl (fun c7 => ?_) (fun c7 => ?_)
    · have d8 : ¬ ((gI h (155 + 10 * k4) 2) = 0) := (of_decide_eq_true c7)
      replace H := H.2 d8
      refine e_ld (pc' := 22) i93_21 rfl rfl ?_
      refine e_get (w := .ref 154) (pc' := 25) i93_22 rfl (x_isC (by decide) hw.1 sh0) (x_fvR (by decide +kernel) (hw.2 0 3 154 lk0_3)) ?_
      refine e_ld (pc' := 26) i93_25 rfl rfl ?_
      refine e_al (n := k4) (w := .ref (155 + 10 * k4)) (pc' := 27) i93_26 rfl (x_alE (a := 23) (by decide) hw.1 sh154 (by decide) e5 g6 (by decide)) (x_clE e5 g6 (by decide)) (x_agR (hw.2 _ _ _ (LK_s g6))) ?_
      refine e_get (w := .int (gI h (155 + 10 * k4) 2)) (pc' := 30) i93_27 rfl (x_isB0 (SB_of g6) hw.1) rfl ?_
      refine e_cn (pc' := 31) i93_30 rfl ?_
      refine e_ic (pc' := 34) i93_31 rfl (fun c9 => ?_) (fun c9 => ?_)
      · have d10 : ¬ ((gI h (155 + 10 * k4) 2) = 2) := (of_decide_eq_true c9)
        replace H := H.2 d10
        refine e_cn (pc' := 40) i93_38 rfl ?_
        refine e_ld (pc' := 41) i93_40 rfl rfl ?_
        refine e_get (w := .ref 154) (pc' := 44) i93_41 rfl (x_isC (by decide) hw.1 sh0) (x_fvR (by decide +kernel) (hw.2 0 3 154 lk0_3)) ?_
        refine e_ld (pc' := 45) i93_44 rfl rfl ?_
        refine e_al (n := k4) (w := .ref (155 + 10 * k4)) (pc' := 46) i93_45 rfl (x_alE (a := 23) (by decide) hw.1 sh154 (by decide) e5 g6 (by decide)) (x_clE e5 g6 (by decide)) (x_agR (hw.2 _ _ _ (LK_s g6))) ?_
        refine e_get (w := .ref ((155 + 10 * k4) + 1)) (pc' := 49) i93_46 rfl (x_isB0 (SB_of g6) hw.1) (x_fvR (by decide +kernel) (hw.2 _ _ _ (SB_lk0_0 (SB_of g6)))) ?_
        refine e_get (w := .int (gI h ((155 + 10 * k4) + 1) 1)) (pc' := 52) i93_49 rfl (x_isB1 (SB_of g6) hw.1) rfl ?_
        refine e_ib (z := 100 + (gI h ((155 + 10 * k4) + 1) 1)) (pc' := 53) i93_52 rfl rfl ?_
        refine e_rt i93_53 rfl ?_
        exact H
      · have d11 : (gI h (155 + 10 * k4) 2) = 2 := (Decidable.not_not.mp (of_decide_eq_false c9))
        replace H := H.1 d11
        refine e_cn (pc' := 35) i93_34 rfl ?_
        refine e_go i93_35 ?_
        refine e_rt i93_53 rfl ?_
        exact H
    · have d12 : (gI h (155 + 10 * k4) 2) = 0 := (Decidable.not_not.mp (of_decide_eq_false c7))
      replace H := H.1 d12
      refine e_cn (pc' := 20) i93_19 rfl ?_
      refine e_rt i93_20 rfl ?_
      exact H
-- FloorTurn.take(IIII)I
set_option maxHeartbeats 8000000 in
set_option maxRecDepth 100000 in
theorem v94 {L : Nat} {xs : Nat → Int32} {Q : Option Value → Hp → Prop} {h : Hp} {x : Int32} {y : Int32} {z : Int32} {u : Int32} (hw : HW h) 
  (H : (((x_isShelf x) = true) → ((((x_isCell y) = true) → (((z < 0) → (∃ (r14 : Int32) (h12 : Hp), Sp L xs 109 [.ref 0, .int (-4)] h (some (.int r14)) h12 ∧ Q (some (.int r14)) h12)) ∧ (¬ (z < 0) → (((0 ≤ u) → (((z = 0) → (∃ (r23 : Int32) (h21 : Hp), Sp L xs 109 [.ref 0, .int (-6)] h (some (.int r23)) h21 ∧ Q (some (.int r23)) h21)) ∧ (¬ (z = 0) → (((u = 0) → (∃ (r30 : Int32) (h28 : Hp), Sp L xs 109 [.ref 0, .int (-6)] h (some (.int r30)) h28 ∧ Q (some (.int r30)) h28)) ∧ (¬ (u = 0) → ((((onF y z u) = true) → (∃ k35 : Nat, x = nI k35 ∧ k35 < 8 ∧ ∃ (h39 : Hp), Sp L xs 43 [.ref ((155 + 10 * k35) + 3), .ref 4, .int y, .int z, .int u] (sI h (155 + 10 * k35) 2 2) none h39 ∧ Q (some (.int (gI h39 ((155 + 10 * k35) + 3) 8))) h39)) ∧ (¬ ((onF y z u) = true) → (∃ (r45 : Int32) (h43 : Hp), Sp L xs 109 [.ref 0, .int (-6)] h (some (.int r45)) h43 ∧ Q (some (.int r45)) h43)))))))) ∧ (¬ (0 ≤ u) → (∃ (r50 : Int32) (h48 : Hp), Sp L xs 109 [.ref 0, .int (-4)] h (some (.int r50)) h48 ∧ Q (some (.int r50)) h48)))))) ∧ (¬ ((x_isCell y) = true) → (∃ (r55 : Int32) (h53 : Hp), Sp L xs 109 [.ref 0, .int (-1)] h (some (.int r55)) h53 ∧ Q (some (.int r55)) h53)))) ∧ (¬ ((x_isShelf x) = true) → (∃ (r5 : Int32) (h3 : Hp), Sp L xs 109 [.ref 0, .int (-1)] h (some (.int r5)) h3 ∧ Q (some (.int r5)) h3))) : ∃ r h', Sp L xs 94 [.ref 0, .int x, .int y, .int z, .int u] h r h' ∧ Q r h' := by
  refine sp_ex (ls := [some (.ref 0), some (.int x), some (.int y), some (.int z), some (.int u)]) rfl ?_
  refine e_ld (pc' := 1) i94_0 rfl rfl ?_
  refine e_cI (w := .int (b2i (x_isShelf x))) (As := [.int x]) (rest := []) (pc' := 4) i94_1 rfl rfl rfl rfl rfl m116 ?_
  refine e_b0 (pc' := 7) i94_4 rfl (fun c1 => ?_) (fun c1 => ?_)
  · have d2 : ¬ ((x_isShelf x) = true) := (show ¬ (x_isShelf x) = true by rw [c1]; decide)
    replace H := H.2 d2
    refine e_ld (pc' := 15) i94_14 rfl rfl ?_
    refine e_cn (pc' := 16) i94_15 rfl ?_
    obtain ⟨r5, h3, s4, H⟩ := H
    have w7q := HW_sp (show x_okm 109 = true by rfl) s4 hw
    have w7 : HW h3 := w7q.1
    refine e_cI (w := .int r5) (As := [.ref 0, .int (-1)]) (rest := []) (pc' := 19) i94_16 rfl rfl rfl rfl (by show (Nat.beq (x_kd 109) 0 && x_is 0 _ (MC 109) 0) = true; rw [show x_kd 109 = 0 by decide +kernel, show MC 109 = 10 by decide +kernel, (x_isC (by decide) hw.1 sh0)]; rfl) s4 ?_
    refine e_rt i94_19 rfl ?_
    exact H
  · have d7 : (x_isShelf x) = true := c1
    replace H := H.1 d7
    refine e_ld (pc' := 8) i94_7 rfl rfl ?_
    refine e_cI (w := .int (b2i (x_isCell y))) (As := [.int y]) (rest := []) (pc' := 11) i94_8 rfl rfl rfl rfl rfl m115 ?_
    refine e_b1 (pc' := 14) i94_11 rfl (fun c8 => ?_) (fun c8 => ?_)
    · have d9 : (x_isCell y) = true := c8
      replace H := H.1 d9
      refine e_ld (pc' := 21) i94_20 rfl rfl ?_
      refine e_if (pc' := 24) i94_21 rfl (fun c10 => ?_) (fun c10 => ?_)
      · have d11 : z < 0 := (of_decide_eq_true c10)
        replace H := H.1 d11
        refine e_ld (pc' := 30) i94_29 rfl rfl ?_
        refine e_cn (pc' := 32) i94_30 rfl ?_
        obtain ⟨r14, h12, s13, H⟩ := H
        have w16q := HW_sp (show x_okm 109 = true by rfl) s13 hw
        have w16 : HW h12 := w16q.1
        refine e_cI (w := .int r14) (As := [.ref 0, .int (-4)]) (rest := []) (pc' := 35) i94_32 rfl rfl rfl rfl (by show (Nat.beq (x_kd 109) 0 && x_is 0 _ (MC 109) 0) = true; rw [show x_kd 109 = 0 by decide +kernel, show MC 109 = 10 by decide +kernel, (x_isC (by decide) hw.1 sh0)]; rfl) s13 ?_
        refine e_rt i94_35 rfl ?_
        exact H
      · have d16 : ¬ (z < 0) := (of_decide_eq_false c10)
        replace H := H.2 d16
        refine e_ld (pc' := 26) i94_24 rfl rfl ?_
        refine e_if (pc' := 29) i94_26 rfl (fun c17 => ?_) (fun c17 => ?_)
        · have d18 : 0 ≤ u := (of_decide_eq_true c17)
          replace H := H.1 d18
          refine e_ld (pc' := 37) i94_36 rfl rfl ?_
          refine e_if (pc' := 40) i94_37 rfl (fun c19 => ?_) (fun c19 => ?_)
          · have d20 : z = 0 := (of_decide_eq_true c19)
            replace H := H.1 d20
            refine e_ld (pc' := 56) i94_55 rfl rfl ?_
            refine e_cn (pc' := 58) i94_56 rfl ?_
            obtain ⟨r23, h21, s22, H⟩ := H
            have w25q := HW_sp (show x_okm 109 = true by rfl) s22 hw
            have w25 : HW h21 := w25q.1
            refine e_cI (w := .int r23) (As := [.ref 0, .int (-6)]) (rest := []) (pc' := 61) i94_58 rfl rfl rfl rfl (by show (Nat.beq (x_kd 109) 0 && x_is 0 _ (MC 109) 0) = true; rw [show x_kd 109 = 0 by decide +kernel, show MC 109 = 10 by decide +kernel, (x_isC (by decide) hw.1 sh0)]; rfl) s22 ?_
            refine e_rt i94_61 rfl ?_
            exact H
          · have d25 : ¬ (z = 0) := (of_decide_eq_false c19)
            replace H := H.2 d25
            refine e_ld (pc' := 42) i94_40 rfl rfl ?_
            refine e_if (pc' := 45) i94_42 rfl (fun c26 => ?_) (fun c26 => ?_)
            · have d27 : u = 0 := (of_decide_eq_true c26)
              replace H := H.1 d27
              refine e_ld (pc' := 56) i94_55 rfl rfl ?_
              refine e_cn (pc' := 58) i94_56 rfl ?_
              obtain ⟨r30, h28, s29, H⟩ := H
              have w32q := HW_sp (show x_okm 109 = true by rfl) s29 hw
              have w32 : HW h28 := w32q.1
              refine e_cI (w := .int r30) (As := [.ref 0, .int (-6)]) (rest := []) (pc' := 61) i94_58 rfl rfl rfl rfl (by show (Nat.beq (x_kd 109) 0 && x_is 0 _ (MC 109) 0) = true; rw [show x_kd 109 = 0 by decide +kernel, show MC 109 = 10 by decide +kernel, (x_isC (by decide) hw.1 sh0)]; rfl) s29 ?_
              refine e_rt i94_61 rfl ?_
              exact H
            · have d32 : ¬ (u = 0) := (of_decide_eq_false c26)
              replace H := H.2 d32
              refine e_ld (pc' := 46) i94_45 rfl rfl ?_
              refine e_ld (pc' := 47) i94_46 rfl rfl ?_
              refine e_ld (pc' := 49) i94_47 rfl rfl ?_
              refine e_cI (w := .int (b2i (onF y z u))) (As := [.int y, .int z, .int u]) (rest := []) (pc' := 52) i94_49 rfl rfl rfl rfl rfl m119 ?_
              refine e_b1 (pc' := 55) i94_52 rfl (fun c33 => ?_) (fun c33 => ?_)
              · have d34 : (onF y z u) = true := c33
                replace H := H.1 d34
                refine e_ld (pc' := 63) i94_62 rfl rfl ?_
                refine e_get (w := .ref 154) (pc' := 66) i94_63 rfl (x_isC (by decide) hw.1 sh0) (x_fvR (by decide +kernel) (hw.2 0 3 154 lk0_3)) ?_
                refine e_ld (pc' := 67) i94_66 rfl rfl ?_
                obtain ⟨k35, e36, g37, H⟩ := H
                refine e_al (n := k35) (w := .ref (155 + 10 * k35)) (pc' := 68) i94_67 rfl (x_alE (a := 23) (by decide) hw.1 sh154 (by decide) e36 g37 (by decide)) (x_clE e36 g37 (by decide)) (x_agR (hw.2 _ _ _ (LK_s g37))) ?_
                refine e_cn (pc' := 69) i94_68 rfl ?_
                refine e_put (h' := sI h (155 + 10 * k35) 2 2) (pc' := 72) i94_69 rfl (x_isB0 (SB_of g37) hw.1) rfl ?_
                have w39 : HW (sI h (155 + 10 * k35) 2 2) := HW_sI hw
                refine e_ld (pc' := 73) i94_72 rfl rfl ?_
                refine e_get (w := .ref 154) (pc' := 76) i94_73 rfl (x_isC (by decide) w39.1 sh0) (x_fvR (by decide +kernel) (w39.2 0 3 154 lk0_3)) ?_
                refine e_ld (pc' := 77) i94_76 rfl rfl ?_
                refine e_al (n := k35) (w := .ref (155 + 10 * k35)) (pc' := 78) i94_77 rfl (x_alE (a := 23) (by decide) w39.1 sh154 (by decide) e36 g37 (by decide)) (x_clE e36 g37 (by decide)) (x_agR (w39.2 _ _ _ (LK_s g37))) ?_
                refine e_get (w := .ref ((155 + 10 * k35) + 3)) (pc' := 81) i94_78 rfl (x_isB0 (SB_of g37) w39.1) (x_fvR (by decide +kernel) (w39.2 _ _ _ (SB_lk0_1 (SB_of g37)))) ?_
                refine e_ld (pc' := 82) i94_81 rfl rfl ?_
                refine e_get (w := .ref 4) (pc' := 85) i94_82 rfl (x_isC (by decide) w39.1 sh0) (x_fvR (by decide +kernel) (w39.2 0 2 4 lk0_2)) ?_
                refine e_ld (pc' := 86) i94_85 rfl rfl ?_
                refine e_ld (pc' := 87) i94_86 rfl rfl ?_
                refine e_ld (pc' := 89) i94_87 rfl rfl ?_
                obtain ⟨h39, s40, H⟩ := H
                have w43q := HW_sp (show x_okm 43 = true by rfl) s40 w39
                have w43 : HW h39 := w43q.1
                refine e_cV (As := [.ref ((155 + 10 * k35) + 3), .ref 4, .int y, .int z, .int u]) (rest := []) (pc' := 92) i94_89 rfl rfl rfl rfl (by show (Nat.beq (x_kd 43) 0 && x_is ((155 + 10 * k35) + 3) _ (MC 43) 0) = true; rw [show x_kd 43 = 0 by decide +kernel, show MC 43 = 4 by decide +kernel, (x_isB3 (SB_of g37) w39.1)]; rfl) s40 ?_
                refine e_ld (pc' := 93) i94_92 rfl rfl ?_
                refine e_get (w := .ref 154) (pc' := 96) i94_93 rfl (x_isC (by decide) w43.1 sh0) (x_fvR (by decide +kernel) (w43.2 0 3 154 lk0_3)) ?_
                refine e_ld (pc' := 97) i94_96 rfl rfl ?_
                refine e_al (n := k35) (w := .ref (155 + 10 * k35)) (pc' := 98) i94_97 rfl (x_alE (a := 23) (by decide) w43.1 sh154 (by decide) e36 g37 (by decide)) (x_clE e36 g37 (by decide)) (x_agR (w43.2 _ _ _ (LK_s g37))) ?_
                refine e_get (w := .ref ((155 + 10 * k35) + 3)) (pc' := 101) i94_98 rfl (x_isB0 (SB_of g37) w43.1) (x_fvR (by decide +kernel) (w43.2 _ _ _ (SB_lk0_1 (SB_of g37)))) ?_
                refine e_get (w := .int (gI h39 ((155 + 10 * k35) + 3) 8)) (pc' := 104) i94_101 rfl (x_isB3 (SB_of g37) w43.1) rfl ?_
                refine e_rt i94_104 rfl ?_
                exact H
              · have d42 : ¬ ((onF y z u) = true) := (show ¬ (onF y z u) = true by rw [c33]; decide)
                replace H := H.2 d42
                refine e_ld (pc' := 56) i94_55 rfl rfl ?_
                refine e_cn (pc' := 58) i94_56 rfl ?_
                obtain ⟨r45, h43, s44, H⟩ := H
                have w47q := HW_sp (show x_okm 109 = true by rfl) s44 hw
                have w47 : HW h43 := w47q.1
                refine e_cI (w := .int r45) (As := [.ref 0, .int (-6)]) (rest := []) (pc' := 61) i94_58 rfl rfl rfl rfl (by show (Nat.beq (x_kd 109) 0 && x_is 0 _ (MC 109) 0) = true; rw [show x_kd 109 = 0 by decide +kernel, show MC 109 = 10 by decide +kernel, (x_isC (by decide) hw.1 sh0)]; rfl) s44 ?_
                refine e_rt i94_61 rfl ?_
                exact H
        · have d47 : ¬ (0 ≤ u) := (of_decide_eq_false c17)
          replace H := H.2 d47
          refine e_ld (pc' := 30) i94_29 rfl rfl ?_
          refine e_cn (pc' := 32) i94_30 rfl ?_
          obtain ⟨r50, h48, s49, H⟩ := H
          have w52q := HW_sp (show x_okm 109 = true by rfl) s49 hw
          have w52 : HW h48 := w52q.1
          refine e_cI (w := .int r50) (As := [.ref 0, .int (-4)]) (rest := []) (pc' := 35) i94_32 rfl rfl rfl rfl (by show (Nat.beq (x_kd 109) 0 && x_is 0 _ (MC 109) 0) = true; rw [show x_kd 109 = 0 by decide +kernel, show MC 109 = 10 by decide +kernel, (x_isC (by decide) hw.1 sh0)]; rfl) s49 ?_
          refine e_rt i94_35 rfl ?_
          exact H
    · have d52 : ¬ ((x_isCell y) = true) := (show ¬ (x_isCell y) = true by rw [c8]; decide)
      replace H := H.2 d52
      refine e_ld (pc' := 15) i94_14 rfl rfl ?_
      refine e_cn (pc' := 16) i94_15 rfl ?_
      obtain ⟨r55, h53, s54, H⟩ := H
      have w57q := HW_sp (show x_okm 109 = true by rfl) s54 hw
      have w57 : HW h53 := w57q.1
      refine e_cI (w := .int r55) (As := [.ref 0, .int (-1)]) (rest := []) (pc' := 19) i94_16 rfl rfl rfl rfl (by show (Nat.beq (x_kd 109) 0 && x_is 0 _ (MC 109) 0) = true; rw [show x_kd 109 = 0 by decide +kernel, show MC 109 = 10 by decide +kernel, (x_isC (by decide) hw.1 sh0)]; rfl) s54 ?_
      refine e_rt i94_19 rfl ?_
      exact H
-- FloorTurn.put(III)I
set_option maxHeartbeats 8000000 in
set_option maxRecDepth 100000 in
theorem v95 {L : Nat} {xs : Nat → Int32} {Q : Option Value → Hp → Prop} {h : Hp} {x : Int32} {y : Int32} {z : Int32} (hw : HW h) 
  (H : (((x_isShelf x) = true) → ((((x_isCell y) = true) → (∃ (r11 : Int32), Sp L xs 111 [.ref 0, .int x] h (some (.int r11)) h ∧ ((r11 = 0) → (∃ k14 : Nat, x = nI k14 ∧ k14 < 8 ∧ (((x_in3 z 0 3) = true) → (∃ (r25 : Int32), Sp L xs 45 [.ref ((155 + 10 * k14) + 3), .int z] h (some (.int r25)) h ∧ ∃ (r27 : Int32), Sp L xs 46 [.ref ((155 + 10 * k14) + 3), .int z] h (some (.int r27)) h ∧ (((onF y r25 r27) = true) → (∃ (r31 : Int32), Sp L xs 47 [.ref ((155 + 10 * k14) + 3), .ref 4, .int y, .int z] h (some (.int r31)) h ∧ ((r31 = 0) → (∃ (r40 : Int32) (h38 : Hp), Sp L xs 109 [.ref 0, .int (-6)] h (some (.int r40)) h38 ∧ Q (some (.int r40)) h38)) ∧ (¬ (r31 = 0) → (∃ (h34 : Hp), Sp L xs 48 [.ref ((155 + 10 * k14) + 3), .ref 4, .int y, .int z] h none h34 ∧ Q (some (.int (gI h34 ((155 + 10 * k14) + 3) 8))) h34)))) ∧ (¬ ((onF y r25 r27) = true) → (∃ (r45 : Int32) (h43 : Hp), Sp L xs 109 [.ref 0, .int (-6)] h (some (.int r45)) h43 ∧ Q (some (.int r45)) h43)))) ∧ (¬ ((x_in3 z 0 3) = true) → (∃ (r21 : Int32) (h19 : Hp), Sp L xs 109 [.ref 0, .int (-6)] h (some (.int r21)) h19 ∧ Q (some (.int r21)) h19)))) ∧ (¬ (r11 = 0) → (∃ (r50 : Int32) (h48 : Hp), Sp L xs 109 [.ref 0, .int r11] h (some (.int r50)) h48 ∧ Q (some (.int r50)) h48)))) ∧ (¬ ((x_isCell y) = true) → (∃ (r55 : Int32) (h53 : Hp), Sp L xs 109 [.ref 0, .int (-1)] h (some (.int r55)) h53 ∧ Q (some (.int r55)) h53)))) ∧ (¬ ((x_isShelf x) = true) → (∃ (r5 : Int32) (h3 : Hp), Sp L xs 109 [.ref 0, .int (-1)] h (some (.int r5)) h3 ∧ Q (some (.int r5)) h3))) : ∃ r h', Sp L xs 95 [.ref 0, .int x, .int y, .int z] h r h' ∧ Q r h' := by
  refine sp_ex (ls := [some (.ref 0), some (.int x), some (.int y), some (.int z), none, none]) rfl ?_
  refine e_ld (pc' := 1) i95_0 rfl rfl ?_
  refine e_cI (w := .int (b2i (x_isShelf x))) (As := [.int x]) (rest := []) (pc' := 4) i95_1 rfl rfl rfl rfl rfl m116 ?_
  refine e_b0 (pc' := 7) i95_4 rfl (fun c1 => ?_) (fun c1 => ?_)
  · have d2 : ¬ ((x_isShelf x) = true) := (show ¬ (x_isShelf x) = true by rw [c1]; decide)
    replace H := H.2 d2
    refine e_ld (pc' := 15) i95_14 rfl rfl ?_
    refine e_cn (pc' := 16) i95_15 rfl ?_
    obtain ⟨r5, h3, s4, H⟩ := H
    have w7q := HW_sp (show x_okm 109 = true by rfl) s4 hw
    have w7 : HW h3 := w7q.1
    refine e_cI (w := .int r5) (As := [.ref 0, .int (-1)]) (rest := []) (pc' := 19) i95_16 rfl rfl rfl rfl (by show (Nat.beq (x_kd 109) 0 && x_is 0 _ (MC 109) 0) = true; rw [show x_kd 109 = 0 by decide +kernel, show MC 109 = 10 by decide +kernel, (x_isC (by decide) hw.1 sh0)]; rfl) s4 ?_
    refine e_rt i95_19 rfl ?_
    exact H
  · have d7 : (x_isShelf x) = true := c1
    replace H := H.1 d7
    refine e_ld (pc' := 8) i95_7 rfl rfl ?_
    refine e_cI (w := .int (b2i (x_isCell y))) (As := [.int y]) (rest := []) (pc' := 11) i95_8 rfl rfl rfl rfl rfl m115 ?_
    refine e_b1 (pc' := 14) i95_11 rfl (fun c8 => ?_) (fun c8 => ?_)
    · have d9 : (x_isCell y) = true := c8
      replace H := H.1 d9
      refine e_ld (pc' := 21) i95_20 rfl rfl ?_
      refine e_ld (pc' := 22) i95_21 rfl rfl ?_
      obtain ⟨r11, s10, H⟩ := H
      refine e_cI (w := .int r11) (As := [.ref 0, .int x]) (rest := []) (pc' := 25) i95_22 rfl rfl rfl rfl (by show (Nat.beq (x_kd 111) 0 && x_is 0 _ (MC 111) 0) = true; rw [show x_kd 111 = 0 by decide +kernel, show MC 111 = 10 by decide +kernel, (x_isC (by decide) hw.1 sh0)]; rfl) s10 ?_
      refine e_st (ls' := [some (.ref 0), some (.int x), some (.int y), some (.int z), some (.int r11), none]) (pc' := 27) i95_25 rfl rfl rfl ?_
      refine e_ld (pc' := 29) i95_27 rfl rfl ?_
      refine e_if (pc' := 32) i95_29 rfl (fun c12 => ?_) (fun c12 => ?_)
      · have d13 : r11 = 0 := (of_decide_eq_true c12)
        replace H := H.1 d13
        refine e_ld (pc' := 40) i95_39 rfl rfl ?_
        refine e_get (w := .ref 154) (pc' := 43) i95_40 rfl (x_isC (by decide) hw.1 sh0) (x_fvR (by decide +kernel) (hw.2 0 3 154 lk0_3)) ?_
        refine e_ld (pc' := 44) i95_43 rfl rfl ?_
        obtain ⟨k14, e15, g16, H⟩ := H
        refine e_al (n := k14) (w := .ref (155 + 10 * k14)) (pc' := 45) i95_44 rfl (x_alE (a := 23) (by decide) hw.1 sh154 (by decide) e15 g16 (by decide)) (x_clE e15 g16 (by decide)) (x_agR (hw.2 _ _ _ (LK_s g16))) ?_
        refine e_get (w := .ref ((155 + 10 * k14) + 3)) (pc' := 48) i95_45 rfl (x_isB0 (SB_of g16) hw.1) (x_fvR (by decide +kernel) (hw.2 _ _ _ (SB_lk0_1 (SB_of g16)))) ?_
        refine e_st (ls' := [some (.ref 0), some (.int x), some (.int y), some (.int z), some (.int r11), some (.ref ((155 + 10 * k14) + 3))]) (pc' := 50) i95_48 rfl rfl rfl ?_
        refine e_ld (pc' := 51) i95_50 rfl rfl ?_
        refine e_cn (pc' := 52) i95_51 rfl ?_
        refine e_cn (pc' := 53) i95_52 rfl ?_
        refine e_cI (w := .int (b2i (x_in3 z 0 3))) (As := [.int z, .int 0, .int 3]) (rest := []) (pc' := 56) i95_53 rfl rfl rfl rfl rfl m114 ?_
        refine e_b0 (pc' := 59) i95_56 rfl (fun c17 => ?_) (fun c17 => ?_)
        · have d18 : ¬ ((x_in3 z 0 3) = true) := (show ¬ (x_in3 z 0 3) = true by rw [c17]; decide)
          replace H := H.2 d18
          refine e_ld (pc' := 79) i95_78 rfl rfl ?_
          refine e_cn (pc' := 81) i95_79 rfl ?_
          obtain ⟨r21, h19, s20, H⟩ := H
          have w23q := HW_sp (show x_okm 109 = true by rfl) s20 hw
          have w23 : HW h19 := w23q.1
          refine e_cI (w := .int r21) (As := [.ref 0, .int (-6)]) (rest := []) (pc' := 84) i95_81 rfl rfl rfl rfl (by show (Nat.beq (x_kd 109) 0 && x_is 0 _ (MC 109) 0) = true; rw [show x_kd 109 = 0 by decide +kernel, show MC 109 = 10 by decide +kernel, (x_isC (by decide) hw.1 sh0)]; rfl) s20 ?_
          refine e_rt i95_84 rfl ?_
          exact H
        · have d23 : (x_in3 z 0 3) = true := c17
          replace H := H.1 d23
          refine e_ld (pc' := 60) i95_59 rfl rfl ?_
          refine e_ld (pc' := 62) i95_60 rfl rfl ?_
          refine e_ld (pc' := 63) i95_62 rfl rfl ?_
          obtain ⟨r25, s24, H⟩ := H
          refine e_cI (w := .int r25) (As := [.ref ((155 + 10 * k14) + 3), .int z]) (rest := [.int y]) (pc' := 66) i95_63 rfl rfl rfl rfl (by show (Nat.beq (x_kd 45) 0 && x_is ((155 + 10 * k14) + 3) _ (MC 45) 0) = true; rw [show x_kd 45 = 0 by decide +kernel, show MC 45 = 4 by decide +kernel, (x_isB3 (SB_of g16) hw.1)]; rfl) s24 ?_
          refine e_ld (pc' := 68) i95_66 rfl rfl ?_
          refine e_ld (pc' := 69) i95_68 rfl rfl ?_
          obtain ⟨r27, s26, H⟩ := H
          refine e_cI (w := .int r27) (As := [.ref ((155 + 10 * k14) + 3), .int z]) (rest := [.int r25, .int y]) (pc' := 72) i95_69 rfl rfl rfl rfl (by show (Nat.beq (x_kd 46) 0 && x_is ((155 + 10 * k14) + 3) _ (MC 46) 0) = true; rw [show x_kd 46 = 0 by decide +kernel, show MC 46 = 4 by decide +kernel, (x_isB3 (SB_of g16) hw.1)]; rfl) s26 ?_
          refine e_cI (w := .int (b2i (onF y r25 r27))) (As := [.int y, .int r25, .int r27]) (rest := []) (pc' := 75) i95_72 rfl rfl rfl rfl rfl m119 ?_
          refine e_b1 (pc' := 78) i95_75 rfl (fun c28 => ?_) (fun c28 => ?_)
          · have d29 : (onF y r25 r27) = true := c28
            replace H := H.1 d29
            refine e_ld (pc' := 87) i95_85 rfl rfl ?_
            refine e_ld (pc' := 88) i95_87 rfl rfl ?_
            refine e_get (w := .ref 4) (pc' := 91) i95_88 rfl (x_isC (by decide) hw.1 sh0) (x_fvR (by decide +kernel) (hw.2 0 2 4 lk0_2)) ?_
            refine e_ld (pc' := 92) i95_91 rfl rfl ?_
            refine e_ld (pc' := 93) i95_92 rfl rfl ?_
            obtain ⟨r31, s30, H⟩ := H
            refine e_cI (w := .int r31) (As := [.ref ((155 + 10 * k14) + 3), .ref 4, .int y, .int z]) (rest := []) (pc' := 96) i95_93 rfl rfl rfl rfl (by show (Nat.beq (x_kd 47) 0 && x_is ((155 + 10 * k14) + 3) _ (MC 47) 0) = true; rw [show x_kd 47 = 0 by decide +kernel, show MC 47 = 4 by decide +kernel, (x_isB3 (SB_of g16) hw.1)]; rfl) s30 ?_
            refine e_if (pc' := 99) i95_96 rfl (fun c32 => ?_) (fun c32 => ?_)
            · have d33 : ¬ (r31 = 0) := (of_decide_eq_true c32)
              replace H := H.2 d33
              refine e_ld (pc' := 108) i95_106 rfl rfl ?_
              refine e_ld (pc' := 109) i95_108 rfl rfl ?_
              refine e_get (w := .ref 4) (pc' := 112) i95_109 rfl (x_isC (by decide) hw.1 sh0) (x_fvR (by decide +kernel) (hw.2 0 2 4 lk0_2)) ?_
              refine e_ld (pc' := 113) i95_112 rfl rfl ?_
              refine e_ld (pc' := 114) i95_113 rfl rfl ?_
              obtain ⟨h34, s35, H⟩ := H
              have w37q := HW_sp (show x_okm 48 = true by rfl) s35 hw
              have w37 : HW h34 := w37q.1
              refine e_cV (As := [.ref ((155 + 10 * k14) + 3), .ref 4, .int y, .int z]) (rest := []) (pc' := 117) i95_114 rfl rfl rfl rfl (by show (Nat.beq (x_kd 48) 0 && x_is ((155 + 10 * k14) + 3) _ (MC 48) 0) = true; rw [show x_kd 48 = 0 by decide +kernel, show MC 48 = 4 by decide +kernel, (x_isB3 (SB_of g16) hw.1)]; rfl) s35 ?_
              refine e_ld (pc' := 119) i95_117 rfl rfl ?_
              refine e_get (w := .int (gI h34 ((155 + 10 * k14) + 3) 8)) (pc' := 122) i95_119 rfl (x_isB3 (SB_of g16) w37.1) rfl ?_
              refine e_rt i95_122 rfl ?_
              exact H
            · have d37 : r31 = 0 := (Decidable.not_not.mp (of_decide_eq_false c32))
              replace H := H.1 d37
              refine e_ld (pc' := 100) i95_99 rfl rfl ?_
              refine e_cn (pc' := 102) i95_100 rfl ?_
              obtain ⟨r40, h38, s39, H⟩ := H
              have w42q := HW_sp (show x_okm 109 = true by rfl) s39 hw
              have w42 : HW h38 := w42q.1
              refine e_cI (w := .int r40) (As := [.ref 0, .int (-6)]) (rest := []) (pc' := 105) i95_102 rfl rfl rfl rfl (by show (Nat.beq (x_kd 109) 0 && x_is 0 _ (MC 109) 0) = true; rw [show x_kd 109 = 0 by decide +kernel, show MC 109 = 10 by decide +kernel, (x_isC (by decide) hw.1 sh0)]; rfl) s39 ?_
              refine e_rt i95_105 rfl ?_
              exact H
          · have d42 : ¬ ((onF y r25 r27) = true) := (show ¬ (onF y r25 r27) = true by rw [c28]; decide)
            replace H := H.2 d42
            refine e_ld (pc' := 79) i95_78 rfl rfl ?_
            refine e_cn (pc' := 81) i95_79 rfl ?_
            obtain ⟨r45, h43, s44, H⟩ := H
            have w47q := HW_sp (show x_okm 109 = true by rfl) s44 hw
            have w47 : HW h43 := w47q.1
            refine e_cI (w := .int r45) (As := [.ref 0, .int (-6)]) (rest := []) (pc' := 84) i95_81 rfl rfl rfl rfl (by show (Nat.beq (x_kd 109) 0 && x_is 0 _ (MC 109) 0) = true; rw [show x_kd 109 = 0 by decide +kernel, show MC 109 = 10 by decide +kernel, (x_isC (by decide) hw.1 sh0)]; rfl) s44 ?_
            refine e_rt i95_84 rfl ?_
            exact H
      · have d47 : ¬ (r11 = 0) := (of_decide_eq_false c12)
        replace H := H.2 d47
        refine e_ld (pc' := 33) i95_32 rfl rfl ?_
        refine e_ld (pc' := 35) i95_33 rfl rfl ?_
        obtain ⟨r50, h48, s49, H⟩ := H
        have w52q := HW_sp (show x_okm 109 = true by rfl) s49 hw
        have w52 : HW h48 := w52q.1
        refine e_cI (w := .int r50) (As := [.ref 0, .int r11]) (rest := []) (pc' := 38) i95_35 rfl rfl rfl rfl (by show (Nat.beq (x_kd 109) 0 && x_is 0 _ (MC 109) 0) = true; rw [show x_kd 109 = 0 by decide +kernel, show MC 109 = 10 by decide +kernel, (x_isC (by decide) hw.1 sh0)]; rfl) s49 ?_
        refine e_rt i95_38 rfl ?_
        exact H
    · have d52 : ¬ ((x_isCell y) = true) := (show ¬ (x_isCell y) = true by rw [c8]; decide)
      replace H := H.2 d52
      refine e_ld (pc' := 15) i95_14 rfl rfl ?_
      refine e_cn (pc' := 16) i95_15 rfl ?_
      obtain ⟨r55, h53, s54, H⟩ := H
      have w57q := HW_sp (show x_okm 109 = true by rfl) s54 hw
      have w57 : HW h53 := w57q.1
      refine e_cI (w := .int r55) (As := [.ref 0, .int (-1)]) (rest := []) (pc' := 19) i95_16 rfl rfl rfl rfl (by show (Nat.beq (x_kd 109) 0 && x_is 0 _ (MC 109) 0) = true; rw [show x_kd 109 = 0 by decide +kernel, show MC 109 = 10 by decide +kernel, (x_isC (by decide) hw.1 sh0)]; rfl) s54 ?_
      refine e_rt i95_19 rfl ?_
      exact H
-- FloorTurn.partsIn(I)I
set_option maxHeartbeats 8000000 in
set_option maxRecDepth 100000 in
theorem v96 {L : Nat} {xs : Nat → Int32} {Q : Option Value → Hp → Prop} {h : Hp} {x : Int32} (hw : HW h) 
  (H : ∃ (r2 : Int32), Sp L xs 111 [.ref 0, .int x] h (some (.int r2)) h ∧ ((r2 = 0) → (∃ k5 : Nat, x = nI k5 ∧ k5 < 8 ∧ Q (some (.int (gI h ((155 + 10 * k5) + 3) 8))) h)) ∧ (¬ (r2 = 0) → (∃ (r11 : Int32) (h9 : Hp), Sp L xs 109 [.ref 0, .int r2] h (some (.int r11)) h9 ∧ Q (some (.int r11)) h9))) : ∃ r h', Sp L xs 96 [.ref 0, .int x] h r h' ∧ Q r h' := by
  refine sp_ex (ls := [some (.ref 0), some (.int x), none]) rfl ?_
  refine e_ld (pc' := 1) i96_0 rfl rfl ?_
  refine e_ld (pc' := 2) i96_1 rfl rfl ?_
  obtain ⟨r2, s1, H⟩ := H
  refine e_cI (w := .int r2) (As := [.ref 0, .int x]) (rest := []) (pc' := 5) i96_2 rfl rfl rfl rfl (by show (Nat.beq (x_kd 111) 0 && x_is 0 _ (MC 111) 0) = true; rw [show x_kd 111 = 0 by decide +kernel, show MC 111 = 10 by decide +kernel, (x_isC (by decide) hw.1 sh0)]; rfl) s1 ?_
  refine e_st (ls' := [some (.ref 0), some (.int x), some (.int r2)]) (pc' := 6) i96_5 rfl rfl rfl ?_
  refine e_ld (pc' := 7) i96_6 rfl rfl ?_
  refine e_if (pc' := 10) i96_7 rfl (fun c3 => ?_) (fun c3 => ?_)
  · have d4 : r2 = 0 := (of_decide_eq_true c3)
    replace H := H.1 d4
    refine e_ld (pc' := 19) i96_18 rfl rfl ?_
    refine e_get (w := .ref 154) (pc' := 22) i96_19 rfl (x_isC (by decide) hw.1 sh0) (x_fvR (by decide +kernel) (hw.2 0 3 154 lk0_3)) ?_
    refine e_ld (pc' := 23) i96_22 rfl rfl ?_
    obtain ⟨k5, e6, g7, H⟩ := H
    refine e_al (n := k5) (w := .ref (155 + 10 * k5)) (pc' := 24) i96_23 rfl (x_alE (a := 23) (by decide) hw.1 sh154 (by decide) e6 g7 (by decide)) (x_clE e6 g7 (by decide)) (x_agR (hw.2 _ _ _ (LK_s g7))) ?_
    refine e_get (w := .ref ((155 + 10 * k5) + 3)) (pc' := 27) i96_24 rfl (x_isB0 (SB_of g7) hw.1) (x_fvR (by decide +kernel) (hw.2 _ _ _ (SB_lk0_1 (SB_of g7)))) ?_
    refine e_get (w := .int (gI h ((155 + 10 * k5) + 3) 8)) (pc' := 30) i96_27 rfl (x_isB3 (SB_of g7) hw.1) rfl ?_
    refine e_rt i96_30 rfl ?_
    exact H
  · have d8 : ¬ (r2 = 0) := (of_decide_eq_false c3)
    replace H := H.2 d8
    refine e_ld (pc' := 11) i96_10 rfl rfl ?_
    refine e_ld (pc' := 12) i96_11 rfl rfl ?_
    obtain ⟨r11, h9, s10, H⟩ := H
    have w13q := HW_sp (show x_okm 109 = true by rfl) s10 hw
    have w13 : HW h9 := w13q.1
    refine e_cI (w := .int r11) (As := [.ref 0, .int r2]) (rest := []) (pc' := 15) i96_12 rfl rfl rfl rfl (by show (Nat.beq (x_kd 109) 0 && x_is 0 _ (MC 109) 0) = true; rw [show x_kd 109 = 0 by decide +kernel, show MC 109 = 10 by decide +kernel, (x_isC (by decide) hw.1 sh0)]; rfl) s10 ?_
    refine e_go i96_15 ?_
    refine e_rt i96_30 rfl ?_
    exact H
-- FloorTurn.tick(I)I
set_option maxHeartbeats 8000000 in
set_option maxRecDepth 100000 in
theorem v97 {L : Nat} {xs : Nat → Int32} {Q : Option Value → Hp → Prop} {h : Hp} {x : Int32} (hw : HW h) 
  (H : (((x_in3 x 1 200) = true) → (((((gI h 4 3) + x) ≤ 20000) → (WP L xs 97 44 [some (.ref 0), some (.int x), some (.int 0), some (.int 0)] [] h Q)) ∧ (¬ (((gI h 4 3) + x) ≤ 20000) → (∃ (r8 : Int32) (h6 : Hp), Sp L xs 109 [.ref 0, .int (-7)] h (some (.int r8)) h6 ∧ Q (some (.int r8)) h6)))) ∧ (¬ ((x_in3 x 1 200) = true) → (∃ (r13 : Int32) (h11 : Hp), Sp L xs 109 [.ref 0, .int (-6)] h (some (.int r13)) h11 ∧ Q (some (.int r13)) h11))) : ∃ r h', Sp L xs 97 [.ref 0, .int x] h r h' ∧ Q r h' := by
  refine sp_ex (ls := [some (.ref 0), some (.int x), none, none]) rfl ?_
  refine e_ld (pc' := 1) i97_0 rfl rfl ?_
  refine e_cn (pc' := 2) i97_1 rfl ?_
  refine e_cn (pc' := 5) i97_2 rfl ?_
  refine e_cI (w := .int (b2i (x_in3 x 1 200))) (As := [.int x, .int 1, .int 200]) (rest := []) (pc' := 8) i97_5 rfl rfl rfl rfl rfl m114 ?_
  refine e_b1 (pc' := 11) i97_8 rfl (fun c1 => ?_) (fun c1 => ?_)
  · have d2 : (x_in3 x 1 200) = true := c1
    replace H := H.1 d2
    refine e_ld (pc' := 19) i97_18 rfl rfl ?_
    refine e_get (w := .ref 4) (pc' := 22) i97_19 rfl (x_isC (by decide) hw.1 sh0) (x_fvR (by decide +kernel) (hw.2 0 2 4 lk0_2)) ?_
    refine e_get (w := .int (gI h 4 3)) (pc' := 25) i97_22 rfl (x_isC (by decide) hw.1 sh4) rfl ?_
    refine e_ld (pc' := 26) i97_25 rfl rfl ?_
    refine e_ib (z := (gI h 4 3) + x) (pc' := 27) i97_26 rfl rfl ?_
    refine e_cn (pc' := 30) i97_27 rfl ?_
    refine e_ic (pc' := 33) i97_30 rfl (fun c3 => ?_) (fun c3 => ?_)
    · have d4 : ((gI h 4 3) + x) ≤ 20000 := (of_decide_eq_true c3)
      replace H := H.1 d4
      refine e_cn (pc' := 41) i97_40 rfl ?_
      refine e_st (ls' := [some (.ref 0), some (.int x), some (.int 0), none]) (pc' := 42) i97_41 rfl rfl rfl ?_
      refine e_cn (pc' := 43) i97_42 rfl ?_
      refine e_st (ls' := [some (.ref 0), some (.int x), some (.int 0), some (.int 0)]) (pc' := 44) i97_43 rfl rfl rfl ?_
      exact H
    · have d5 : ¬ (((gI h 4 3) + x) ≤ 20000) := (of_decide_eq_false c3)
      replace H := H.2 d5
      refine e_ld (pc' := 34) i97_33 rfl rfl ?_
      refine e_cn (pc' := 36) i97_34 rfl ?_
      obtain ⟨r8, h6, s7, H⟩ := H
      have w10q := HW_sp (show x_okm 109 = true by rfl) s7 hw
      have w10 : HW h6 := w10q.1
      refine e_cI (w := .int r8) (As := [.ref 0, .int (-7)]) (rest := []) (pc' := 39) i97_36 rfl rfl rfl rfl (by show (Nat.beq (x_kd 109) 0 && x_is 0 _ (MC 109) 0) = true; rw [show x_kd 109 = 0 by decide +kernel, show MC 109 = 10 by decide +kernel, (x_isC (by decide) hw.1 sh0)]; rfl) s7 ?_
      refine e_rt i97_39 rfl ?_
      exact H
  · have d10 : ¬ ((x_in3 x 1 200) = true) := (show ¬ (x_in3 x 1 200) = true by rw [c1]; decide)
    replace H := H.2 d10
    refine e_ld (pc' := 12) i97_11 rfl rfl ?_
    refine e_cn (pc' := 14) i97_12 rfl ?_
    obtain ⟨r13, h11, s12, H⟩ := H
    have w15q := HW_sp (show x_okm 109 = true by rfl) s12 hw
    have w15 : HW h11 := w15q.1
    refine e_cI (w := .int r13) (As := [.ref 0, .int (-6)]) (rest := []) (pc' := 17) i97_14 rfl rfl rfl rfl (by show (Nat.beq (x_kd 109) 0 && x_is 0 _ (MC 109) 0) = true; rw [show x_kd 109 = 0 by decide +kernel, show MC 109 = 10 by decide +kernel, (x_isC (by decide) hw.1 sh0)]; rfl) s12 ?_
    refine e_rt i97_17 rfl ?_
    exact H
set_option maxHeartbeats 8000000 in
set_option maxRecDepth 100000 in
theorem v97_44 {L : Nat} {xs : Nat → Int32} {Q : Option Value → Hp → Prop} {h : Hp} {l1 : Int32} {l2 : Int32} {l3 : Int32} (hw : HW h) 
  (H : ((l1 ≤ l3) → (Q (some (.int l2)) h)) ∧ (¬ (l1 ≤ l3) → (∃ (r6 : Int32) (h4 : Hp), Sp L xs 16 [.ref 4] h (some (.int r6)) h4 ∧ WP L xs 97 44 [some (.ref 0), some (.int l1), some (.int (l2 + r6)), some (.int (l3 + 1))] [] h4 Q))) : WP L xs 97 44 [some (.ref 0), some (.int l1), some (.int l2), some (.int l3)] [] h Q := by
  refine e_ld (pc' := 45) i97_44 rfl rfl ?_
  refine e_ld (pc' := 46) i97_45 rfl rfl ?_
  refine e_ic (pc' := 49) i97_46 rfl (fun c1 => ?_) (fun c1 => ?_)
  · have d2 : l1 ≤ l3 := (of_decide_eq_true c1)
    replace H := H.1 d2
    refine e_ld (pc' := 66) i97_65 rfl rfl ?_
    refine e_rt i97_66 rfl ?_
    exact H
  · have d3 : ¬ (l1 ≤ l3) := (of_decide_eq_false c1)
    replace H := H.2 d3
    refine e_ld (pc' := 50) i97_49 rfl rfl ?_
    refine e_ld (pc' := 51) i97_50 rfl rfl ?_
    refine e_get (w := .ref 4) (pc' := 54) i97_51 rfl (x_isC (by decide) hw.1 sh0) (x_fvR (by decide +kernel) (hw.2 0 2 4 lk0_2)) ?_
    obtain ⟨r6, h4, s5, H⟩ := H
    have w8q := HW_sp (show x_okm 16 = true by rfl) s5 hw
    have w8 : HW h4 := w8q.1
    refine e_cI (w := .int r6) (As := [.ref 4]) (rest := [.int l2]) (pc' := 57) i97_54 rfl rfl rfl rfl (by show (Nat.beq (x_kd 16) 0 && x_is 4 _ (MC 16) 0) = true; rw [show x_kd 16 = 0 by decide +kernel, show MC 16 = 2 by decide +kernel, (x_isC (by decide) hw.1 sh4)]; rfl) s5 ?_
    refine e_ib (z := l2 + r6) (pc' := 58) i97_57 rfl rfl ?_
    refine e_st (ls' := [some (.ref 0), some (.int l1), some (.int (l2 + r6)), some (.int l3)]) (pc' := 59) i97_58 rfl rfl rfl ?_
    refine e_inc (z := l3 + 1) (ls' := [some (.ref 0), some (.int l1), some (.int (l2 + r6)), some (.int (l3 + 1))]) (pc' := 62) i97_59 rfl rfl rfl rfl ?_
    refine e_go i97_62 ?_
    exact H
-- FloorTurn.turn(I)I
set_option maxHeartbeats 8000000 in
set_option maxRecDepth 100000 in
theorem v98 {L : Nat} {xs : Nat → Int32} {Q : Option Value → Hp → Prop} {h : Hp} {x : Int32} (hw : HW h) 
  (H : (((x_in3 x 1 400) = true) → (∃ (r5 : Int32) (h3 : Hp), Sp L xs 5 [.ref 235, .ref 4, .int x] h (some (.int r5)) h3 ∧ ((r5 = 0) → (Q (some (.int 0)) h3)) ∧ (¬ (r5 = 0) → (∃ (h9 : Hp), Sp L xs 9 [.ref 235] h3 none h9 ∧ Q (some (.int (gI h9 235 7))) h9)))) ∧ (¬ ((x_in3 x 1 400) = true) → (∃ (r16 : Int32) (h14 : Hp), Sp L xs 109 [.ref 0, .int (-6)] h (some (.int r16)) h14 ∧ Q (some (.int r16)) h14))) : ∃ r h', Sp L xs 98 [.ref 0, .int x] h r h' ∧ Q r h' := by
  refine sp_ex (ls := [some (.ref 0), some (.int x)]) rfl ?_
  refine e_ld (pc' := 1) i98_0 rfl rfl ?_
  refine e_cn (pc' := 2) i98_1 rfl ?_
  refine e_cn (pc' := 5) i98_2 rfl ?_
  refine e_cI (w := .int (b2i (x_in3 x 1 400))) (As := [.int x, .int 1, .int 400]) (rest := []) (pc' := 8) i98_5 rfl rfl rfl rfl rfl m114 ?_
  refine e_b1 (pc' := 11) i98_8 rfl (fun c1 => ?_) (fun c1 => ?_)
  · have d2 : (x_in3 x 1 400) = true := c1
    replace H := H.1 d2
    refine e_ld (pc' := 19) i98_18 rfl rfl ?_
    refine e_get (w := .ref 235) (pc' := 22) i98_19 rfl (x_isC (by decide) hw.1 sh0) (x_fvR (by decide +kernel) (hw.2 0 4 235 lk0_4)) ?_
    refine e_ld (pc' := 23) i98_22 rfl rfl ?_
    refine e_get (w := .ref 4) (pc' := 26) i98_23 rfl (x_isC (by decide) hw.1 sh0) (x_fvR (by decide +kernel) (hw.2 0 2 4 lk0_2)) ?_
    refine e_ld (pc' := 27) i98_26 rfl rfl ?_
    obtain ⟨r5, h3, s4, H⟩ := H
    have w7q := HW_sp (show x_okm 5 = true by rfl) s4 hw
    have w7 : HW h3 := w7q.1
    refine e_cI (w := .int r5) (As := [.ref 235, .ref 4, .int x]) (rest := []) (pc' := 30) i98_27 rfl rfl rfl rfl (by show (Nat.beq (x_kd 5) 0 && x_is 235 _ (MC 5) 0) = true; rw [show x_kd 5 = 0 by decide +kernel, show MC 5 = 1 by decide +kernel, (x_isC (by decide) hw.1 sh235)]; rfl) s4 ?_
    refine e_if (pc' := 33) i98_30 rfl (fun c7 => ?_) (fun c7 => ?_)
    · have d8 : ¬ (r5 = 0) := (of_decide_eq_true c7)
      replace H := H.2 d8
      refine e_ld (pc' := 36) i98_35 rfl rfl ?_
      refine e_get (w := .ref 235) (pc' := 39) i98_36 rfl (x_isC (by decide) w7.1 sh0) (x_fvR (by decide +kernel) (w7.2 0 4 235 lk0_4)) ?_
      obtain ⟨h9, s10, H⟩ := H
      have w13q := HW_sp (show x_okm 9 = true by rfl) s10 w7
      have w13 : HW h9 := w13q.1
      refine e_cV (As := [.ref 235]) (rest := []) (pc' := 42) i98_39 rfl rfl rfl rfl (by show (Nat.beq (x_kd 9) 0 && x_is 235 _ (MC 9) 0) = true; rw [show x_kd 9 = 0 by decide +kernel, show MC 9 = 1 by decide +kernel, (x_isC (by decide) w7.1 sh235)]; rfl) s10 ?_
      refine e_ld (pc' := 43) i98_42 rfl rfl ?_
      refine e_get (w := .ref 235) (pc' := 46) i98_43 rfl (x_isC (by decide) w13.1 sh0) (x_fvR (by decide +kernel) (w13.2 0 4 235 lk0_4)) ?_
      refine e_get (w := .int (gI h9 235 7)) (pc' := 49) i98_46 rfl (x_isC (by decide) w13.1 sh235) rfl ?_
      refine e_rt i98_49 rfl ?_
      exact H
    · have d12 : r5 = 0 := (Decidable.not_not.mp (of_decide_eq_false c7))
      replace H := H.1 d12
      refine e_cn (pc' := 34) i98_33 rfl ?_
      refine e_rt i98_34 rfl ?_
      exact H
  · have d13 : ¬ ((x_in3 x 1 400) = true) := (show ¬ (x_in3 x 1 400) = true by rw [c1]; decide)
    replace H := H.2 d13
    refine e_ld (pc' := 12) i98_11 rfl rfl ?_
    refine e_cn (pc' := 14) i98_12 rfl ?_
    obtain ⟨r16, h14, s15, H⟩ := H
    have w18q := HW_sp (show x_okm 109 = true by rfl) s15 hw
    have w18 : HW h14 := w18q.1
    refine e_cI (w := .int r16) (As := [.ref 0, .int (-6)]) (rest := []) (pc' := 17) i98_14 rfl rfl rfl rfl (by show (Nat.beq (x_kd 109) 0 && x_is 0 _ (MC 109) 0) = true; rw [show x_kd 109 = 0 by decide +kernel, show MC 109 = 10 by decide +kernel, (x_isC (by decide) hw.1 sh0)]; rfl) s15 ?_
    refine e_rt i98_17 rfl ?_
    exact H
-- FloorTurn.turned(I)I
set_option maxHeartbeats 8000000 in
set_option maxRecDepth 100000 in
theorem v99 {L : Nat} {xs : Nat → Int32} {Q : Option Value → Hp → Prop} {h : Hp} {x : Int32} (hw : HW h) 
  (H : ∃ (r2 : Int32), Sp L xs 11 [.ref 235, .int x] h (some (.int r2)) h ∧ Q (some (.int r2)) h) : ∃ r h', Sp L xs 99 [.ref 0, .int x] h r h' ∧ Q r h' := by
  refine sp_ex (ls := [some (.ref 0), some (.int x)]) rfl ?_
  refine e_ld (pc' := 1) i99_0 rfl rfl ?_
  refine e_get (w := .ref 235) (pc' := 4) i99_1 rfl (x_isC (by decide) hw.1 sh0) (x_fvR (by decide +kernel) (hw.2 0 4 235 lk0_4)) ?_
  refine e_ld (pc' := 5) i99_4 rfl rfl ?_
  obtain ⟨r2, s1, H⟩ := H
  refine e_cI (w := .int r2) (As := [.ref 235, .int x]) (rest := []) (pc' := 8) i99_5 rfl rfl rfl rfl (by show (Nat.beq (x_kd 11) 0 && x_is 235 _ (MC 11) 0) = true; rw [show x_kd 11 = 0 by decide +kernel, show MC 11 = 1 by decide +kernel, (x_isC (by decide) hw.1 sh235)]; rfl) s1 ?_
  refine e_rt i99_8 rfl ?_
  exact H
-- FloorTurn.cellTurn(II)I
set_option maxHeartbeats 8000000 in
set_option maxRecDepth 100000 in
theorem v100 {L : Nat} {xs : Nat → Int32} {Q : Option Value → Hp → Prop} {h : Hp} {x : Int32} {y : Int32} (hw : HW h) 
  (H : (((x_isCell x) = true) → (∃ (r5 : Int32), Sp L xs 12 [.ref 235, .int x, .int y] h (some (.int r5)) h ∧ Q (some (.int r5)) h)) ∧ (¬ ((x_isCell x) = true) → (Q (some (.int (-1))) h))) : ∃ r h', Sp L xs 100 [.ref 0, .int x, .int y] h r h' ∧ Q r h' := by
  refine sp_ex (ls := [some (.ref 0), some (.int x), some (.int y)]) rfl ?_
  refine e_ld (pc' := 1) i100_0 rfl rfl ?_
  refine e_cI (w := .int (b2i (x_isCell x))) (As := [.int x]) (rest := []) (pc' := 4) i100_1 rfl rfl rfl rfl rfl m115 ?_
  refine e_b0 (pc' := 7) i100_4 rfl (fun c1 => ?_) (fun c1 => ?_)
  · have d2 : ¬ ((x_isCell x) = true) := (show ¬ (x_isCell x) = true by rw [c1]; decide)
    replace H := H.2 d2
    refine e_cn (pc' := 20) i100_19 rfl ?_
    refine e_rt i100_20 rfl ?_
    exact H
  · have d3 : (x_isCell x) = true := c1
    replace H := H.1 d3
    refine e_ld (pc' := 8) i100_7 rfl rfl ?_
    refine e_get (w := .ref 235) (pc' := 11) i100_8 rfl (x_isC (by decide) hw.1 sh0) (x_fvR (by decide +kernel) (hw.2 0 4 235 lk0_4)) ?_
    refine e_ld (pc' := 12) i100_11 rfl rfl ?_
    refine e_ld (pc' := 13) i100_12 rfl rfl ?_
    obtain ⟨r5, s4, H⟩ := H
    refine e_cI (w := .int r5) (As := [.ref 235, .int x, .int y]) (rest := []) (pc' := 16) i100_13 rfl rfl rfl rfl (by show (Nat.beq (x_kd 12) 0 && x_is 235 _ (MC 12) 0) = true; rw [show x_kd 12 = 0 by decide +kernel, show MC 12 = 1 by decide +kernel, (x_isC (by decide) hw.1 sh235)]; rfl) s4 ?_
    refine e_go i100_16 ?_
    refine e_rt i100_20 rfl ?_
    exact H
-- FloorTurn.part(II)I
set_option maxHeartbeats 8000000 in
set_option maxRecDepth 100000 in
theorem v101 {L : Nat} {xs : Nat → Int32} {Q : Option Value → Hp → Prop} {h : Hp} {x : Int32} {y : Int32} (hw : HW h) 
  (H : (((x_isCell x) = true) → (∃ k4 : Nat, x = nI k4 ∧ k4 < 144 ∧ ∃ (r8 : Int32), Sp L xs 41 [.ref (10 + k4), .int y] h (some (.int r8)) h ∧ Q (some (.int r8)) h)) ∧ (¬ ((x_isCell x) = true) → (Q (some (.int (-1))) h))) : ∃ r h', Sp L xs 101 [.ref 0, .int x, .int y] h r h' ∧ Q r h' := by
  refine sp_ex (ls := [some (.ref 0), some (.int x), some (.int y)]) rfl ?_
  refine e_ld (pc' := 1) i101_0 rfl rfl ?_
  refine e_cI (w := .int (b2i (x_isCell x))) (As := [.int x]) (rest := []) (pc' := 4) i101_1 rfl rfl rfl rfl rfl m115 ?_
  refine e_b0 (pc' := 7) i101_4 rfl (fun c1 => ?_) (fun c1 => ?_)
  · have d2 : ¬ ((x_isCell x) = true) := (show ¬ (x_isCell x) = true by rw [c1]; decide)
    replace H := H.2 d2
    refine e_cn (pc' := 24) i101_23 rfl ?_
    refine e_rt i101_24 rfl ?_
    exact H
  · have d3 : (x_isCell x) = true := c1
    replace H := H.1 d3
    refine e_ld (pc' := 8) i101_7 rfl rfl ?_
    refine e_get (w := .ref 4) (pc' := 11) i101_8 rfl (x_isC (by decide) hw.1 sh0) (x_fvR (by decide +kernel) (hw.2 0 2 4 lk0_2)) ?_
    refine e_get (w := .ref 5) (pc' := 14) i101_11 rfl (x_isC (by decide) hw.1 sh4) (x_fvR (by decide +kernel) (hw.2 4 1 5 lk4_1)) ?_
    refine e_ld (pc' := 15) i101_14 rfl rfl ?_
    obtain ⟨k4, e5, g6, H⟩ := H
    refine e_al (n := k4) (w := .ref (10 + k4)) (pc' := 16) i101_15 rfl (x_alE (a := 23) (by decide) hw.1 sh5 (by decide) e5 g6 (by decide)) (x_clE e5 g6 (by decide)) (x_agR (hw.2 _ _ _ (LK_p4 g6))) ?_
    refine e_ld (pc' := 17) i101_16 rfl rfl ?_
    obtain ⟨r8, s7, H⟩ := H
    refine e_cI (w := .int r8) (As := [.ref (10 + k4), .int y]) (rest := []) (pc' := 20) i101_17 rfl rfl rfl rfl (by show (Nat.beq (x_kd 41) 0 && x_is (10 + k4) _ (MC 41) 0) = true; rw [show x_kd 41 = 0 by decide +kernel, show MC 41 = 3 by decide +kernel, (x_isP (PT_4 g6) hw.1)]; rfl) s7 ?_
    refine e_go i101_20 ?_
    refine e_rt i101_24 rfl ?_
    exact H
-- FloorTurn.sunk(I)I
set_option maxHeartbeats 8000000 in
set_option maxRecDepth 100000 in
theorem v102 {L : Nat} {xs : Nat → Int32} {Q : Option Value → Hp → Prop} {h : Hp} {x : Int32} (hw : HW h) 
  (H : (((x_isItem x) = true) → (∃ k4 : Nat, x = nI k4 ∧ k4 < 21 ∧ Q (some (.int (gI h 6 k4))) h)) ∧ (¬ ((x_isItem x) = true) → (Q (some (.int 0)) h))) : ∃ r h', Sp L xs 102 [.ref 0, .int x] h r h' ∧ Q r h' := by
  refine sp_ex (ls := [some (.ref 0), some (.int x)]) rfl ?_
  refine e_ld (pc' := 1) i102_0 rfl rfl ?_
  refine e_cI (w := .int (b2i (x_isItem x))) (As := [.int x]) (rest := []) (pc' := 4) i102_1 rfl rfl rfl rfl rfl m117 ?_
  refine e_b0 (pc' := 7) i102_4 rfl (fun c1 => ?_) (fun c1 => ?_)
  · have d2 : ¬ ((x_isItem x) = true) := (show ¬ (x_isItem x) = true by rw [c1]; decide)
    replace H := H.2 d2
    refine e_cn (pc' := 20) i102_19 rfl ?_
    refine e_rt i102_20 rfl ?_
    exact H
  · have d3 : (x_isItem x) = true := c1
    replace H := H.1 d3
    refine e_ld (pc' := 8) i102_7 rfl rfl ?_
    refine e_get (w := .ref 4) (pc' := 11) i102_8 rfl (x_isC (by decide) hw.1 sh0) (x_fvR (by decide +kernel) (hw.2 0 2 4 lk0_2)) ?_
    refine e_get (w := .ref 6) (pc' := 14) i102_11 rfl (x_isC (by decide) hw.1 sh4) (x_fvR (by decide +kernel) (hw.2 4 2 6 lk4_2)) ?_
    refine e_ld (pc' := 15) i102_14 rfl rfl ?_
    obtain ⟨k4, e5, g6, H⟩ := H
    refine e_al (n := k4) (w := .int (gI h 6 k4)) (pc' := 16) i102_15 rfl (x_alE (a := 20) (by decide) hw.1 sh6 (by decide) e5 g6 (by decide)) (x_clE e5 g6 (by decide)) rfl ?_
    refine e_go i102_16 ?_
    refine e_rt i102_20 rfl ?_
    exact H
-- FloorTurn.wish(III)I
set_option maxHeartbeats 8000000 in
set_option maxRecDepth 100000 in
theorem v103 {L : Nat} {xs : Nat → Int32} {Q : Option Value → Hp → Prop} {h : Hp} {x : Int32} {y : Int32} {z : Int32} (hw : HW h) 
  (H : (((x_isItem x) = true) → (∃ (r9 : Int32), Sp L xs 3 [.ref 2, .int x] h (some (.int r9)) h ∧ ((r9 = (-1)) → (∃ (r40 : Int32) (h38 : Hp), Sp L xs 109 [.ref 0, .int (-6)] h (some (.int r40)) h38 ∧ Q (some (.int r40)) h38)) ∧ (¬ (r9 = (-1)) → ((((x_in3 y 1 60) = true) → ((((x_in3 z 1 60) = true) → (∃ (r23 : Int32) (h21 : Hp), Sp L xs 52 [.ref 393, .ref 2, .int x, .int y, .int z] h (some (.int r23)) h21 ∧ ((r23 = (-1)) → (∃ (r30 : Int32) (h28 : Hp), Sp L xs 109 [.ref 0, .int (-6)] h21 (some (.int r30)) h28 ∧ Q (some (.int r30)) h28)) ∧ (¬ (r23 = (-1)) → (Q (some (.int r23)) h21)))) ∧ (¬ ((x_in3 z 1 60) = true) → (∃ (r35 : Int32) (h33 : Hp), Sp L xs 109 [.ref 0, .int (-6)] h (some (.int r35)) h33 ∧ Q (some (.int r35)) h33)))) ∧ (¬ ((x_in3 y 1 60) = true) → (∃ (r16 : Int32) (h14 : Hp), Sp L xs 109 [.ref 0, .int (-6)] h (some (.int r16)) h14 ∧ Q (some (.int r16)) h14)))))) ∧ (¬ ((x_isItem x) = true) → (∃ (r5 : Int32) (h3 : Hp), Sp L xs 109 [.ref 0, .int (-6)] h (some (.int r5)) h3 ∧ Q (some (.int r5)) h3))) : ∃ r h', Sp L xs 103 [.ref 0, .int x, .int y, .int z] h r h' ∧ Q r h' := by
  refine sp_ex (ls := [some (.ref 0), some (.int x), some (.int y), some (.int z), none]) rfl ?_
  refine e_ld (pc' := 1) i103_0 rfl rfl ?_
  refine e_cI (w := .int (b2i (x_isItem x))) (As := [.int x]) (rest := []) (pc' := 4) i103_1 rfl rfl rfl rfl rfl m117 ?_
  refine e_b0 (pc' := 7) i103_4 rfl (fun c1 => ?_) (fun c1 => ?_)
  · have d2 : ¬ ((x_isItem x) = true) := (show ¬ (x_isItem x) = true by rw [c1]; decide)
    replace H := H.2 d2
    refine e_ld (pc' := 20) i103_19 rfl rfl ?_
    refine e_cn (pc' := 22) i103_20 rfl ?_
    obtain ⟨r5, h3, s4, H⟩ := H
    have w7q := HW_sp (show x_okm 109 = true by rfl) s4 hw
    have w7 : HW h3 := w7q.1
    refine e_cI (w := .int r5) (As := [.ref 0, .int (-6)]) (rest := []) (pc' := 25) i103_22 rfl rfl rfl rfl (by show (Nat.beq (x_kd 109) 0 && x_is 0 _ (MC 109) 0) = true; rw [show x_kd 109 = 0 by decide +kernel, show MC 109 = 10 by decide +kernel, (x_isC (by decide) hw.1 sh0)]; rfl) s4 ?_
    refine e_rt i103_25 rfl ?_
    exact H
  · have d7 : (x_isItem x) = true := c1
    replace H := H.1 d7
    refine e_ld (pc' := 8) i103_7 rfl rfl ?_
    refine e_get (w := .ref 2) (pc' := 11) i103_8 rfl (x_isC (by decide) hw.1 sh0) (x_fvR (by decide +kernel) (hw.2 0 1 2 lk0_1)) ?_
    refine e_ld (pc' := 12) i103_11 rfl rfl ?_
    obtain ⟨r9, s8, H⟩ := H
    refine e_cI (w := .int r9) (As := [.ref 2, .int x]) (rest := []) (pc' := 15) i103_12 rfl rfl rfl rfl (by show (Nat.beq (x_kd 3) 0 && x_is 2 _ (MC 3) 0) = true; rw [show x_kd 3 = 0 by decide +kernel, show MC 3 = 0 by decide +kernel, (x_isC (by decide) hw.1 sh2)]; rfl) s8 ?_
    refine e_cn (pc' := 16) i103_15 rfl ?_
    refine e_ic (pc' := 19) i103_16 rfl (fun c10 => ?_) (fun c10 => ?_)
    · have d11 : ¬ (r9 = (-1)) := (of_decide_eq_true c10)
      replace H := H.2 d11
      refine e_ld (pc' := 27) i103_26 rfl rfl ?_
      refine e_cn (pc' := 28) i103_27 rfl ?_
      refine e_cn (pc' := 30) i103_28 rfl ?_
      refine e_cI (w := .int (b2i (x_in3 y 1 60))) (As := [.int y, .int 1, .int 60]) (rest := []) (pc' := 33) i103_30 rfl rfl rfl rfl rfl m114 ?_
      refine e_b0 (pc' := 36) i103_33 rfl (fun c12 => ?_) (fun c12 => ?_)
      · have d13 : ¬ ((x_in3 y 1 60) = true) := (show ¬ (x_in3 y 1 60) = true by rw [c12]; decide)
        replace H := H.2 d13
        refine e_ld (pc' := 47) i103_46 rfl rfl ?_
        refine e_cn (pc' := 49) i103_47 rfl ?_
        obtain ⟨r16, h14, s15, H⟩ := H
        have w18q := HW_sp (show x_okm 109 = true by rfl) s15 hw
        have w18 : HW h14 := w18q.1
        refine e_cI (w := .int r16) (As := [.ref 0, .int (-6)]) (rest := []) (pc' := 52) i103_49 rfl rfl rfl rfl (by show (Nat.beq (x_kd 109) 0 && x_is 0 _ (MC 109) 0) = true; rw [show x_kd 109 = 0 by decide +kernel, show MC 109 = 10 by decide +kernel, (x_isC (by decide) hw.1 sh0)]; rfl) s15 ?_
        refine e_rt i103_52 rfl ?_
        exact H
      · have d18 : (x_in3 y 1 60) = true := c12
        replace H := H.1 d18
        refine e_ld (pc' := 37) i103_36 rfl rfl ?_
        refine e_cn (pc' := 38) i103_37 rfl ?_
        refine e_cn (pc' := 40) i103_38 rfl ?_
        refine e_cI (w := .int (b2i (x_in3 z 1 60))) (As := [.int z, .int 1, .int 60]) (rest := []) (pc' := 43) i103_40 rfl rfl rfl rfl rfl m114 ?_
        refine e_b1 (pc' := 46) i103_43 rfl (fun c19 => ?_) (fun c19 => ?_)
        · have d20 : (x_in3 z 1 60) = true := c19
          replace H := H.1 d20
          refine e_ld (pc' := 54) i103_53 rfl rfl ?_
          refine e_get (w := .ref 393) (pc' := 57) i103_54 rfl (x_isC (by decide) hw.1 sh0) (x_fvR (by decide +kernel) (hw.2 0 6 393 lk0_6)) ?_
          refine e_ld (pc' := 58) i103_57 rfl rfl ?_
          refine e_get (w := .ref 2) (pc' := 61) i103_58 rfl (x_isC (by decide) hw.1 sh0) (x_fvR (by decide +kernel) (hw.2 0 1 2 lk0_1)) ?_
          refine e_ld (pc' := 62) i103_61 rfl rfl ?_
          refine e_ld (pc' := 63) i103_62 rfl rfl ?_
          refine e_ld (pc' := 64) i103_63 rfl rfl ?_
          obtain ⟨r23, h21, s22, H⟩ := H
          have w25q := HW_sp (show x_okm 52 = true by rfl) s22 hw
          have w25 : HW h21 := w25q.1
          refine e_cI (w := .int r23) (As := [.ref 393, .ref 2, .int x, .int y, .int z]) (rest := []) (pc' := 67) i103_64 rfl rfl rfl rfl (by show (Nat.beq (x_kd 52) 0 && x_is 393 _ (MC 52) 0) = true; rw [show x_kd 52 = 0 by decide +kernel, show MC 52 = 5 by decide +kernel, (x_isC (by decide) hw.1 sh393)]; rfl) s22 ?_
          refine e_st (ls' := [some (.ref 0), some (.int x), some (.int y), some (.int z), some (.int r23)]) (pc' := 69) i103_67 rfl rfl rfl ?_
          refine e_ld (pc' := 71) i103_69 rfl rfl ?_
          refine e_cn (pc' := 72) i103_71 rfl ?_
          refine e_ic (pc' := 75) i103_72 rfl (fun c25 => ?_) (fun c25 => ?_)
          · have d26 : ¬ (r23 = (-1)) := (of_decide_eq_true c25)
            replace H := H.2 d26
            refine e_ld (pc' := 86) i103_84 rfl rfl ?_
            refine e_rt i103_86 rfl ?_
            exact H
          · have d27 : r23 = (-1) := (Decidable.not_not.mp (of_decide_eq_false c25))
            replace H := H.1 d27
            refine e_ld (pc' := 76) i103_75 rfl rfl ?_
            refine e_cn (pc' := 78) i103_76 rfl ?_
            obtain ⟨r30, h28, s29, H⟩ := H
            have w33q := HW_sp (show x_okm 109 = true by rfl) s29 w25
            have w33 : HW h28 := w33q.1
            refine e_cI (w := .int r30) (As := [.ref 0, .int (-6)]) (rest := []) (pc' := 81) i103_78 rfl rfl rfl rfl (by show (Nat.beq (x_kd 109) 0 && x_is 0 _ (MC 109) 0) = true; rw [show x_kd 109 = 0 by decide +kernel, show MC 109 = 10 by decide +kernel, (x_isC (by decide) w25.1 sh0)]; rfl) s29 ?_
            refine e_go i103_81 ?_
            refine e_rt i103_86 rfl ?_
            exact H
        · have d32 : ¬ ((x_in3 z 1 60) = true) := (show ¬ (x_in3 z 1 60) = true by rw [c19]; decide)
          replace H := H.2 d32
          refine e_ld (pc' := 47) i103_46 rfl rfl ?_
          refine e_cn (pc' := 49) i103_47 rfl ?_
          obtain ⟨r35, h33, s34, H⟩ := H
          have w37q := HW_sp (show x_okm 109 = true by rfl) s34 hw
          have w37 : HW h33 := w37q.1
          refine e_cI (w := .int r35) (As := [.ref 0, .int (-6)]) (rest := []) (pc' := 52) i103_49 rfl rfl rfl rfl (by show (Nat.beq (x_kd 109) 0 && x_is 0 _ (MC 109) 0) = true; rw [show x_kd 109 = 0 by decide +kernel, show MC 109 = 10 by decide +kernel, (x_isC (by decide) hw.1 sh0)]; rfl) s34 ?_
          refine e_rt i103_52 rfl ?_
          exact H
    · have d37 : r9 = (-1) := (Decidable.not_not.mp (of_decide_eq_false c10))
      replace H := H.1 d37
      refine e_ld (pc' := 20) i103_19 rfl rfl ?_
      refine e_cn (pc' := 22) i103_20 rfl ?_
      obtain ⟨r40, h38, s39, H⟩ := H
      have w42q := HW_sp (show x_okm 109 = true by rfl) s39 hw
      have w42 : HW h38 := w42q.1
      refine e_cI (w := .int r40) (As := [.ref 0, .int (-6)]) (rest := []) (pc' := 25) i103_22 rfl rfl rfl rfl (by show (Nat.beq (x_kd 109) 0 && x_is 0 _ (MC 109) 0) = true; rw [show x_kd 109 = 0 by decide +kernel, show MC 109 = 10 by decide +kernel, (x_isC (by decide) hw.1 sh0)]; rfl) s39 ?_
      refine e_rt i103_25 rfl ?_
      exact H
-- FloorTurn.machines(I)I
set_option maxHeartbeats 8000000 in
set_option maxRecDepth 100000 in
theorem v104 {L : Nat} {xs : Nat → Int32} {Q : Option Value → Hp → Prop} {h : Hp} {x : Int32} (hw : HW h) 
  (H : (((x_in3 x 0 7) = true) → (∃ k4 : Nat, x = nI k4 ∧ k4 < 8 ∧ Q (some (.int (gI h 394 k4))) h)) ∧ (¬ ((x_in3 x 0 7) = true) → (Q (some (.int 0)) h))) : ∃ r h', Sp L xs 104 [.ref 0, .int x] h r h' ∧ Q r h' := by
  refine sp_ex (ls := [some (.ref 0), some (.int x)]) rfl ?_
  refine e_ld (pc' := 1) i104_0 rfl rfl ?_
  refine e_cn (pc' := 2) i104_1 rfl ?_
  refine e_cn (pc' := 4) i104_2 rfl ?_
  refine e_cI (w := .int (b2i (x_in3 x 0 7))) (As := [.int x, .int 0, .int 7]) (rest := []) (pc' := 7) i104_4 rfl rfl rfl rfl rfl m114 ?_
  refine e_b0 (pc' := 10) i104_7 rfl (fun c1 => ?_) (fun c1 => ?_)
  · have d2 : ¬ ((x_in3 x 0 7) = true) := (show ¬ (x_in3 x 0 7) = true by rw [c1]; decide)
    replace H := H.2 d2
    refine e_cn (pc' := 23) i104_22 rfl ?_
    refine e_rt i104_23 rfl ?_
    exact H
  · have d3 : (x_in3 x 0 7) = true := c1
    replace H := H.1 d3
    refine e_ld (pc' := 11) i104_10 rfl rfl ?_
    refine e_get (w := .ref 393) (pc' := 14) i104_11 rfl (x_isC (by decide) hw.1 sh0) (x_fvR (by decide +kernel) (hw.2 0 6 393 lk0_6)) ?_
    refine e_get (w := .ref 394) (pc' := 17) i104_14 rfl (x_isC (by decide) hw.1 sh393) (x_fvR (by decide +kernel) (hw.2 393 0 394 lk393_0)) ?_
    refine e_ld (pc' := 18) i104_17 rfl rfl ?_
    obtain ⟨k4, e5, g6, H⟩ := H
    refine e_al (n := k4) (w := .int (gI h 394 k4)) (pc' := 19) i104_18 rfl (x_alE (a := 20) (by decide) hw.1 sh394 (by decide) e5 g6 (by decide)) (x_clE e5 g6 (by decide)) rfl ?_
    refine e_go i104_19 ?_
    refine e_rt i104_23 rfl ?_
    exact H
-- FloorTurn.rate(IZ)J
set_option maxHeartbeats 8000000 in
set_option maxRecDepth 100000 in
theorem v105 {L : Nat} {xs : Nat → Int32} {Q : Option Value → Hp → Prop} {h : Hp} {x : Int32} {y : Bool} (hw : HW h) 
  (H : (((x_isItem x) = true) → (∃ (r4 : Int64), Sp L xs 60 [.ref 393, .int x, .int (b2i y)] h (some (.long r4)) h ∧ Q (some (.long r4)) h)) ∧ (¬ ((x_isItem x) = true) → (Q (some (.long (if y = true then (1) else (0)))) h))) : ∃ r h', Sp L xs 105 [.ref 0, .int x, .int (b2i y)] h r h' ∧ Q r h' := by
  refine sp_ex (ls := [some (.ref 0), some (.int x), some (.int (b2i y))]) rfl ?_
  refine e_ld (pc' := 1) i105_0 rfl rfl ?_
  refine e_cI (w := .int (b2i (x_isItem x))) (As := [.int x]) (rest := []) (pc' := 4) i105_1 rfl rfl rfl rfl rfl m117 ?_
  refine e_b1 (pc' := 7) i105_4 rfl (fun c1 => ?_) (fun c1 => ?_)
  · have d2 : (x_isItem x) = true := c1
    replace H := H.1 d2
    refine e_ld (pc' := 18) i105_17 rfl rfl ?_
    refine e_get (w := .ref 393) (pc' := 21) i105_18 rfl (x_isC (by decide) hw.1 sh0) (x_fvR (by decide +kernel) (hw.2 0 6 393 lk0_6)) ?_
    refine e_ld (pc' := 22) i105_21 rfl rfl ?_
    refine e_ld (pc' := 23) i105_22 rfl rfl ?_
    obtain ⟨r4, s3, H⟩ := H
    refine e_cI (w := .long r4) (As := [.ref 393, .int x, .int (b2i y)]) (rest := []) (pc' := 26) i105_23 rfl rfl rfl rfl (by show (Nat.beq (x_kd 60) 0 && x_is 393 _ (MC 60) 0) = true; rw [show x_kd 60 = 0 by decide +kernel, show MC 60 = 5 by decide +kernel, (x_isC (by decide) hw.1 sh393)]; rfl) s3 ?_
    refine e_rt i105_26 rfl ?_
    exact H
  · have d5 : ¬ ((x_isItem x) = true) := (show ¬ (x_isItem x) = true by rw [c1]; decide)
    replace H := H.2 d5
    refine e_ld (pc' := 8) i105_7 rfl rfl ?_
    refine e_reg (pc' := 16) (ls' := [some (.ref 0), some (.int x), some (.int (b2i y))]) (st' := [.long (if y = true then (1) else (0))]) (fun kj6 => ?_) ?_
    · skip
      refine e_b0 (pc' := 11) i105_8 rfl (fun c7 => ?_) (fun c7 => ?_)
      · have d8 : ¬ (y = true) := (show ¬ y = true by rw [c7]; decide)
        refine e_cn (pc' := 16) i105_15 rfl ?_
        exact (by simp only [if_neg d8] at kj6 ⊢; exact kj6)
      · have d9 : y = true := c7
        refine e_cn (pc' := 12) i105_11 rfl ?_
        refine e_go i105_12 ?_
        exact (by simp only [if_pos d9] at kj6 ⊢; exact kj6)
    refine e_rt i105_16 rfl ?_
    exact H
-- FloorTurn.path(II)I
set_option maxHeartbeats 8000000 in
set_option maxRecDepth 100000 in
theorem v106 {L : Nat} {xs : Nat → Int32} {Q : Option Value → Hp → Prop} {h : Hp} {x : Int32} {y : Int32} (hw : HW h) 
  (H : ∃ (r3 : Int32) (h1 : Hp), Sp L xs 65 [.ref 390, .ref 4, .int x, .int y] h (some (.int r3)) h1 ∧ Q (some (.int r3)) h1) : ∃ r h', Sp L xs 106 [.ref 0, .int x, .int y] h r h' ∧ Q r h' := by
  refine sp_ex (ls := [some (.ref 0), some (.int x), some (.int y)]) rfl ?_
  refine e_ld (pc' := 1) i106_0 rfl rfl ?_
  refine e_get (w := .ref 390) (pc' := 4) i106_1 rfl (x_isC (by decide) hw.1 sh0) (x_fvR (by decide +kernel) (hw.2 0 5 390 lk0_5)) ?_
  refine e_ld (pc' := 5) i106_4 rfl rfl ?_
  refine e_get (w := .ref 4) (pc' := 8) i106_5 rfl (x_isC (by decide) hw.1 sh0) (x_fvR (by decide +kernel) (hw.2 0 2 4 lk0_2)) ?_
  refine e_ld (pc' := 9) i106_8 rfl rfl ?_
  refine e_ld (pc' := 10) i106_9 rfl rfl ?_
  obtain ⟨r3, h1, s2, H⟩ := H
  have w5q := HW_sp (show x_okm 65 = true by rfl) s2 hw
  have w5 : HW h1 := w5q.1
  refine e_cI (w := .int r3) (As := [.ref 390, .ref 4, .int x, .int y]) (rest := []) (pc' := 13) i106_10 rfl rfl rfl rfl (by show (Nat.beq (x_kd 65) 0 && x_is 390 _ (MC 65) 0) = true; rw [show x_kd 65 = 0 by decide +kernel, show MC 65 = 7 by decide +kernel, (x_isC (by decide) hw.1 sh390)]; rfl) s2 ?_
  refine e_rt i106_13 rfl ?_
  exact H
-- FloorTurn.lay(II)I
set_option maxHeartbeats 8000000 in
set_option maxRecDepth 100000 in
theorem v107 {L : Nat} {xs : Nat → Int32} {Q : Option Value → Hp → Prop} {h : Hp} {x : Int32} {y : Int32} (hw : HW h) 
  (H : (((x_isCell x) = true) → ((((x_isCell y) = true) → (∃ (r12 : Int32) (h10 : Hp), Sp L xs 65 [.ref 390, .ref 4, .int x, .int y] h (some (.int r12)) h10 ∧ ((r12 = (-1)) → (∃ (r22 : Int32) (h20 : Hp), Sp L xs 109 [.ref 0, .int (-6)] h10 (some (.int r22)) h20 ∧ Q (some (.int r22)) h20)) ∧ (¬ (r12 = (-1)) → (∃ (h16 : Hp), Sp L xs 72 [.ref 390, .ref 4, .int x, .int y, .int r12] h10 none h16 ∧ Q (some (.int r12)) h16)))) ∧ (¬ ((x_isCell y) = true) → (∃ (r27 : Int32) (h25 : Hp), Sp L xs 109 [.ref 0, .int (-1)] h (some (.int r27)) h25 ∧ Q (some (.int r27)) h25)))) ∧ (¬ ((x_isCell x) = true) → (∃ (r5 : Int32) (h3 : Hp), Sp L xs 109 [.ref 0, .int (-1)] h (some (.int r5)) h3 ∧ Q (some (.int r5)) h3))) : ∃ r h', Sp L xs 107 [.ref 0, .int x, .int y] h r h' ∧ Q r h' := by
  refine sp_ex (ls := [some (.ref 0), some (.int x), some (.int y), none]) rfl ?_
  refine e_ld (pc' := 1) i107_0 rfl rfl ?_
  refine e_cI (w := .int (b2i (x_isCell x))) (As := [.int x]) (rest := []) (pc' := 4) i107_1 rfl rfl rfl rfl rfl m115 ?_
  refine e_b0 (pc' := 7) i107_4 rfl (fun c1 => ?_) (fun c1 => ?_)
  · have d2 : ¬ ((x_isCell x) = true) := (show ¬ (x_isCell x) = true by rw [c1]; decide)
    replace H := H.2 d2
    refine e_ld (pc' := 15) i107_14 rfl rfl ?_
    refine e_cn (pc' := 16) i107_15 rfl ?_
    obtain ⟨r5, h3, s4, H⟩ := H
    have w7q := HW_sp (show x_okm 109 = true by rfl) s4 hw
    have w7 : HW h3 := w7q.1
    refine e_cI (w := .int r5) (As := [.ref 0, .int (-1)]) (rest := []) (pc' := 19) i107_16 rfl rfl rfl rfl (by show (Nat.beq (x_kd 109) 0 && x_is 0 _ (MC 109) 0) = true; rw [show x_kd 109 = 0 by decide +kernel, show MC 109 = 10 by decide +kernel, (x_isC (by decide) hw.1 sh0)]; rfl) s4 ?_
    refine e_rt i107_19 rfl ?_
    exact H
  · have d7 : (x_isCell x) = true := c1
    replace H := H.1 d7
    refine e_ld (pc' := 8) i107_7 rfl rfl ?_
    refine e_cI (w := .int (b2i (x_isCell y))) (As := [.int y]) (rest := []) (pc' := 11) i107_8 rfl rfl rfl rfl rfl m115 ?_
    refine e_b1 (pc' := 14) i107_11 rfl (fun c8 => ?_) (fun c8 => ?_)
    · have d9 : (x_isCell y) = true := c8
      replace H := H.1 d9
      refine e_ld (pc' := 21) i107_20 rfl rfl ?_
      refine e_get (w := .ref 390) (pc' := 24) i107_21 rfl (x_isC (by decide) hw.1 sh0) (x_fvR (by decide +kernel) (hw.2 0 5 390 lk0_5)) ?_
      refine e_ld (pc' := 25) i107_24 rfl rfl ?_
      refine e_get (w := .ref 4) (pc' := 28) i107_25 rfl (x_isC (by decide) hw.1 sh0) (x_fvR (by decide +kernel) (hw.2 0 2 4 lk0_2)) ?_
      refine e_ld (pc' := 29) i107_28 rfl rfl ?_
      refine e_ld (pc' := 30) i107_29 rfl rfl ?_
      obtain ⟨r12, h10, s11, H⟩ := H
      have w14q := HW_sp (show x_okm 65 = true by rfl) s11 hw
      have w14 : HW h10 := w14q.1
      refine e_cI (w := .int r12) (As := [.ref 390, .ref 4, .int x, .int y]) (rest := []) (pc' := 33) i107_30 rfl rfl rfl rfl (by show (Nat.beq (x_kd 65) 0 && x_is 390 _ (MC 65) 0) = true; rw [show x_kd 65 = 0 by decide +kernel, show MC 65 = 7 by decide +kernel, (x_isC (by decide) hw.1 sh390)]; rfl) s11 ?_
      refine e_st (ls' := [some (.ref 0), some (.int x), some (.int y), some (.int r12)]) (pc' := 34) i107_33 rfl rfl rfl ?_
      refine e_ld (pc' := 35) i107_34 rfl rfl ?_
      refine e_cn (pc' := 36) i107_35 rfl ?_
      refine e_ic (pc' := 39) i107_36 rfl (fun c14 => ?_) (fun c14 => ?_)
      · have d15 : ¬ (r12 = (-1)) := (of_decide_eq_true c14)
        replace H := H.2 d15
        refine e_ld (pc' := 47) i107_46 rfl rfl ?_
        refine e_get (w := .ref 390) (pc' := 50) i107_47 rfl (x_isC (by decide) w14.1 sh0) (x_fvR (by decide +kernel) (w14.2 0 5 390 lk0_5)) ?_
        refine e_ld (pc' := 51) i107_50 rfl rfl ?_
        refine e_get (w := .ref 4) (pc' := 54) i107_51 rfl (x_isC (by decide) w14.1 sh0) (x_fvR (by decide +kernel) (w14.2 0 2 4 lk0_2)) ?_
        refine e_ld (pc' := 55) i107_54 rfl rfl ?_
        refine e_ld (pc' := 56) i107_55 rfl rfl ?_
        refine e_ld (pc' := 57) i107_56 rfl rfl ?_
        obtain ⟨h16, s17, H⟩ := H
        have w20q := HW_sp (show x_okm 72 = true by rfl) s17 w14
        have w20 : HW h16 := w20q.1
        refine e_cV (As := [.ref 390, .ref 4, .int x, .int y, .int r12]) (rest := []) (pc' := 60) i107_57 rfl rfl rfl rfl (by show (Nat.beq (x_kd 72) 0 && x_is 390 _ (MC 72) 0) = true; rw [show x_kd 72 = 0 by decide +kernel, show MC 72 = 7 by decide +kernel, (x_isC (by decide) w14.1 sh390)]; rfl) s17 ?_
        refine e_ld (pc' := 61) i107_60 rfl rfl ?_
        refine e_rt i107_61 rfl ?_
        exact H
      · have d19 : r12 = (-1) := (Decidable.not_not.mp (of_decide_eq_false c14))
        replace H := H.1 d19
        refine e_ld (pc' := 40) i107_39 rfl rfl ?_
        refine e_cn (pc' := 42) i107_40 rfl ?_
        obtain ⟨r22, h20, s21, H⟩ := H
        have w25q := HW_sp (show x_okm 109 = true by rfl) s21 w14
        have w25 : HW h20 := w25q.1
        refine e_cI (w := .int r22) (As := [.ref 0, .int (-6)]) (rest := []) (pc' := 45) i107_42 rfl rfl rfl rfl (by show (Nat.beq (x_kd 109) 0 && x_is 0 _ (MC 109) 0) = true; rw [show x_kd 109 = 0 by decide +kernel, show MC 109 = 10 by decide +kernel, (x_isC (by decide) w14.1 sh0)]; rfl) s21 ?_
        refine e_rt i107_45 rfl ?_
        exact H
    · have d24 : ¬ ((x_isCell y) = true) := (show ¬ (x_isCell y) = true by rw [c8]; decide)
      replace H := H.2 d24
      refine e_ld (pc' := 15) i107_14 rfl rfl ?_
      refine e_cn (pc' := 16) i107_15 rfl ?_
      obtain ⟨r27, h25, s26, H⟩ := H
      have w29q := HW_sp (show x_okm 109 = true by rfl) s26 hw
      have w29 : HW h25 := w29q.1
      refine e_cI (w := .int r27) (As := [.ref 0, .int (-1)]) (rest := []) (pc' := 19) i107_16 rfl rfl rfl rfl (by show (Nat.beq (x_kd 109) 0 && x_is 0 _ (MC 109) 0) = true; rw [show x_kd 109 = 0 by decide +kernel, show MC 109 = 10 by decide +kernel, (x_isC (by decide) hw.1 sh0)]; rfl) s26 ?_
      refine e_rt i107_19 rfl ?_
      exact H
-- FloorTurn.status(I)I
set_option maxHeartbeats 8000000 in
set_option maxRecDepth 100000 in
theorem v108 {L : Nat} {xs : Nat → Int32} {Q : Option Value → Hp → Prop} {h : Hp} {x : Int32} (hw : HW h) 
  (H : ((x = 0) → (∃ (r3 : Int32), Sp L xs 22 [.ref 4] h (some (.int r3)) h ∧ Q (some (.int r3)) h)) ∧ (¬ (x = 0) → (((x = 1) → (Q (some (.int (gI h 2 1))) h)) ∧ (¬ (x = 1) → (((x = 2) → (Q (some (.int (gI h 4 3))) h)) ∧ (¬ (x = 2) → (((x = 3) → (∃ (r8 : Int32), Sp L xs 23 [.ref 4] h (some (.int r8)) h ∧ Q (some (.int r8)) h)) ∧ (¬ (x = 3) → (((x = 4) → (∃ (r11 : Int32), Sp L xs 24 [.ref 4] h (some (.int r11)) h ∧ Q (some (.int r11)) h)) ∧ (¬ (x = 4) → ((((x_in3 x 11 17) = true) → (∃ k15 : Nat, (x - 10) = nI k15 ∧ k15 < 8 ∧ Q (some (.int (gI h 1 k15))) h)) ∧ (¬ ((x_in3 x 11 17) = true) → (Q (some (.int (-1))) h))))))))))))) : ∃ r h', Sp L xs 108 [.ref 0, .int x] h r h' ∧ Q r h' := by
  refine sp_ex (ls := [some (.ref 0), some (.int x)]) rfl ?_
  refine e_ld (pc' := 1) i108_0 rfl rfl ?_
  by_cases c1 : x = 0
  · replace H := H.1 c1
    refine e_tab (pc' := 36) i108_1 (by rw [c1]; rfl) ?_
    refine e_ld (pc' := 37) i108_36 rfl rfl ?_
    refine e_get (w := .ref 4) (pc' := 40) i108_37 rfl (x_isC (by decide) hw.1 sh0) (x_fvR (by decide +kernel) (hw.2 0 2 4 lk0_2)) ?_
    obtain ⟨r3, s2, H⟩ := H
    refine e_cI (w := .int r3) (As := [.ref 4]) (rest := []) (pc' := 43) i108_40 rfl rfl rfl rfl (by show (Nat.beq (x_kd 22) 0 && x_is 4 _ (MC 22) 0) = true; rw [show x_kd 22 = 0 by decide +kernel, show MC 22 = 2 by decide +kernel, (x_isC (by decide) hw.1 sh4)]; rfl) s2 ?_
    refine e_rt i108_43 rfl ?_
    exact H
  · replace H := H.2 c1
    by_cases c4 : x = 1
    · replace H := H.1 c4
      refine e_tab (pc' := 44) i108_1 (by rw [c4]; rfl) ?_
      refine e_ld (pc' := 45) i108_44 rfl rfl ?_
      refine e_get (w := .ref 2) (pc' := 48) i108_45 rfl (x_isC (by decide) hw.1 sh0) (x_fvR (by decide +kernel) (hw.2 0 1 2 lk0_1)) ?_
      refine e_get (w := .int (gI h 2 1)) (pc' := 51) i108_48 rfl (x_isC (by decide) hw.1 sh2) rfl ?_
      refine e_rt i108_51 rfl ?_
      exact H
    · replace H := H.2 c4
      by_cases c5 : x = 2
      · replace H := H.1 c5
        refine e_tab (pc' := 52) i108_1 (by rw [c5]; rfl) ?_
        refine e_ld (pc' := 53) i108_52 rfl rfl ?_
        refine e_get (w := .ref 4) (pc' := 56) i108_53 rfl (x_isC (by decide) hw.1 sh0) (x_fvR (by decide +kernel) (hw.2 0 2 4 lk0_2)) ?_
        refine e_get (w := .int (gI h 4 3)) (pc' := 59) i108_56 rfl (x_isC (by decide) hw.1 sh4) rfl ?_
        refine e_rt i108_59 rfl ?_
        exact H
      · replace H := H.2 c5
        by_cases c6 : x = 3
        · replace H := H.1 c6
          refine e_tab (pc' := 60) i108_1 (by rw [c6]; rfl) ?_
          refine e_ld (pc' := 61) i108_60 rfl rfl ?_
          refine e_get (w := .ref 4) (pc' := 64) i108_61 rfl (x_isC (by decide) hw.1 sh0) (x_fvR (by decide +kernel) (hw.2 0 2 4 lk0_2)) ?_
          obtain ⟨r8, s7, H⟩ := H
          refine e_cI (w := .int r8) (As := [.ref 4]) (rest := []) (pc' := 67) i108_64 rfl rfl rfl rfl (by show (Nat.beq (x_kd 23) 0 && x_is 4 _ (MC 23) 0) = true; rw [show x_kd 23 = 0 by decide +kernel, show MC 23 = 2 by decide +kernel, (x_isC (by decide) hw.1 sh4)]; rfl) s7 ?_
          refine e_rt i108_67 rfl ?_
          exact H
        · replace H := H.2 c6
          by_cases c9 : x = 4
          · replace H := H.1 c9
            refine e_tab (pc' := 68) i108_1 (by rw [c9]; rfl) ?_
            refine e_ld (pc' := 69) i108_68 rfl rfl ?_
            refine e_get (w := .ref 4) (pc' := 72) i108_69 rfl (x_isC (by decide) hw.1 sh0) (x_fvR (by decide +kernel) (hw.2 0 2 4 lk0_2)) ?_
            obtain ⟨r11, s10, H⟩ := H
            refine e_cI (w := .int r11) (As := [.ref 4]) (rest := []) (pc' := 75) i108_72 rfl rfl rfl rfl (by show (Nat.beq (x_kd 24) 0 && x_is 4 _ (MC 24) 0) = true; rw [show x_kd 24 = 0 by decide +kernel, show MC 24 = 2 by decide +kernel, (x_isC (by decide) hw.1 sh4)]; rfl) s10 ?_
            refine e_rt i108_75 rfl ?_
            exact H
          · replace H := H.2 c9
            refine e_tab (pc' := 76) i108_1 (x_tgt_out (by decide) (fun k (hk : k < 5) => by rcases (show k = 0 ∨ k = 1 ∨ k = 2 ∨ k = 3 ∨ k = 4 by omega) with rfl | rfl | rfl | rfl | rfl <;> assumption)) ?_
            refine e_ld (pc' := 77) i108_76 rfl rfl ?_
            refine e_cn (pc' := 79) i108_77 rfl ?_
            refine e_cn (pc' := 81) i108_79 rfl ?_
            refine e_cI (w := .int (b2i (x_in3 x 11 17))) (As := [.int x, .int 11, .int 17]) (rest := []) (pc' := 84) i108_81 rfl rfl rfl rfl rfl m114 ?_
            refine e_b0 (pc' := 87) i108_84 rfl (fun c12 => ?_) (fun c12 => ?_)
            · have d13 : ¬ ((x_in3 x 11 17) = true) := (show ¬ (x_in3 x 11 17) = true by rw [c12]; decide)
              replace H := H.2 d13
              refine e_cn (pc' := 100) i108_99 rfl ?_
              refine e_rt i108_100 rfl ?_
              exact H
            · have d14 : (x_in3 x 11 17) = true := c12
              replace H := H.1 d14
              refine e_ld (pc' := 88) i108_87 rfl rfl ?_
              refine e_get (w := .ref 1) (pc' := 91) i108_88 rfl (x_isC (by decide) hw.1 sh0) (x_fvR (by decide +kernel) (hw.2 0 0 1 lk0_0)) ?_
              refine e_ld (pc' := 92) i108_91 rfl rfl ?_
              refine e_cn (pc' := 94) i108_92 rfl ?_
              refine e_ib (z := x - 10) (pc' := 95) i108_94 rfl rfl ?_
              obtain ⟨k15, e16, g17, H⟩ := H
              refine e_al (n := k15) (w := .int (gI h 1 k15)) (pc' := 96) i108_95 rfl (x_alE (a := 20) (by decide) hw.1 sh1 (by decide) e16 g17 (by decide)) (x_clE e16 g17 (by decide)) rfl ?_
              refine e_go i108_96 ?_
              refine e_rt i108_100 rfl ?_
              exact H
-- FloorTurn.refuse(I)I
set_option maxHeartbeats 8000000 in
set_option maxRecDepth 100000 in
theorem v109 {L : Nat} {xs : Nat → Int32} {Q : Option Value → Hp → Prop} {h : Hp} {x : Int32} (hw : HW h) 
  (H : (((x_in3 x (-7) (-1)) = true) → (∃ k4 : Nat, (-x) = nI k4 ∧ k4 < 8 ∧ Q (some (.int x)) (sI h 1 k4 ((gI h 1 k4) + 1)))) ∧ (¬ ((x_in3 x (-7) (-1)) = true) → (Q (some (.int x)) h))) : ∃ r h', Sp L xs 109 [.ref 0, .int x] h r h' ∧ Q r h' := by
  refine sp_ex (ls := [some (.ref 0), some (.int x)]) rfl ?_
  refine e_ld (pc' := 1) i109_0 rfl rfl ?_
  refine e_cn (pc' := 3) i109_1 rfl ?_
  refine e_cn (pc' := 4) i109_3 rfl ?_
  refine e_cI (w := .int (b2i (x_in3 x (-7) (-1)))) (As := [.int x, .int (-7), .int (-1)]) (rest := []) (pc' := 7) i109_4 rfl rfl rfl rfl rfl m114 ?_
  refine e_b0 (pc' := 10) i109_7 rfl (fun c1 => ?_) (fun c1 => ?_)
  · have d2 : ¬ ((x_in3 x (-7) (-1)) = true) := (show ¬ (x_in3 x (-7) (-1)) = true by rw [c1]; decide)
    replace H := H.2 d2
    refine e_ld (pc' := 22) i109_21 rfl rfl ?_
    refine e_rt i109_22 rfl ?_
    exact H
  · have d3 : (x_in3 x (-7) (-1)) = true := c1
    replace H := H.1 d3
    refine e_ld (pc' := 11) i109_10 rfl rfl ?_
    refine e_get (w := .ref 1) (pc' := 14) i109_11 rfl (x_isC (by decide) hw.1 sh0) (x_fvR (by decide +kernel) (hw.2 0 0 1 lk0_0)) ?_
    refine e_ld (pc' := 15) i109_14 rfl rfl ?_
    refine e_un (pc' := 16) i109_15 rfl rfl ?_
    refine e_stk (pc' := 17) i109_16 rfl rfl ?_
    obtain ⟨k4, e5, g6, H⟩ := H
    refine e_al (n := k4) (w := .int (gI h 1 k4)) (pc' := 18) i109_17 rfl (x_alE (a := 20) (by decide) hw.1 sh1 (by decide) e5 g6 (by decide)) (x_clE e5 g6 (by decide)) rfl ?_
    refine e_cn (pc' := 19) i109_18 rfl ?_
    refine e_ib (z := (gI h 1 k4) + 1) (pc' := 20) i109_19 rfl rfl ?_
    refine e_as (n := k4) (h' := sI h 1 k4 ((gI h 1 k4) + 1)) (pc' := 21) i109_20 rfl (x_alE (a := 20) (by decide) hw.1 sh1 (by decide) e5 g6 (by decide)) (x_clE e5 g6 (by decide)) (by rw [(show (SH 1).1 = 20 by rw [sh1])]; rfl) ?_
    have w8 : HW (sI h 1 k4 ((gI h 1 k4) + 1)) := HW_sI hw
    refine e_ld (pc' := 22) i109_21 rfl rfl ?_
    refine e_rt i109_22 rfl ?_
    exact H
