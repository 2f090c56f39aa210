/-! Conditions of methods (made by wip/whole/vcmake.py). -/
-- FloorTurnModel.starts(II)V
set_option maxHeartbeats 8000000 in
set_option maxRecDepth 100000 in
theorem v155 {L : Nat} {xs : Nat → Int32} {Q : Option Value → Hp → Prop} {h : Hp} {x : Int32} {y : Int32} (hw : HW h) 
  (H : ∃ k1 : Nat, y = nI k1 ∧ k1 < 144 ∧ ∃ k4 : Nat, ((144 * x) + y) = nI k4 ∧ k4 < 432 ∧ (((gI h 416 k4) = 0) → (∃ k9 : Nat, (gI h 407 k1) = nI k9 ∧ k9 < 8 ∧ (((gI h 399 k9) < (gI h 414 k4)) → (Q none h)) ∧ (¬ ((gI h 399 k9) < (gI h 414 k4)) → (∃ k15 : Nat, (2 * ((144 * x) + y)) = nI k15 ∧ k15 < 864 ∧ ∃ k18 : Nat, (2 * (gI h 407 k1)) = nI k18 ∧ k18 < 16 ∧ (((gI h 417 k15) < (gI h 403 k18)) → (Q none h)) ∧ (¬ ((gI h 417 k15) < (gI h 403 k18)) → (∃ k24 : Nat, ((2 * ((144 * x) + y)) + 1) = nI k24 ∧ k24 < 864 ∧ ∃ k27 : Nat, ((2 * (gI h 407 k1)) + 1) = nI k27 ∧ k27 < 16 ∧ (((gI h 417 k24) < (gI h 403 k27)) → (Q none h)) ∧ (¬ ((gI h 417 k24) < (gI h 403 k27)) → (Q none (sI (sI (sI (sI h 417 k15 ((gI h 417 k15) - (gI h 403 k18))) 417 k24 ((gI (sI h 417 k15 ((gI h 417 k15) - (gI h 403 k18))) 417 k24) - (gI h 403 k27))) 416 k4 1) 415 k4 0))))))))) ∧ (¬ ((gI h 416 k4) = 0) → (∃ k39 : Nat, (gI h 407 k1) = nI k39 ∧ k39 < 8 ∧ (((gI (sI h 415 k4 ((gI h 415 k4) + 1)) 415 k4) = (gI h 401 k39)) → ((((gI (sI (sI (sI h 415 k4 ((gI h 415 k4) + 1)) 414 k4 ((gI h 414 k4) + (gI h 399 k39))) 416 k4 0) 416 k4) = 0) → ((((gI h 399 k39) < (gI (sI (sI h 415 k4 ((gI h 415 k4) + 1)) 414 k4 ((gI h 414 k4) + (gI h 399 k39))) 414 k4)) → (Q none (sI (sI (sI (sI (sI h 415 k4 ((gI h 415 k4) + 1)) 414 k4 ((gI h 414 k4) + (gI h 399 k39))) 416 k4 0) 415 k4 0) 433 k1 ((gI h 433 k1) + 1)))) ∧ (¬ ((gI h 399 k39) < (gI (sI (sI h 415 k4 ((gI h 415 k4) + 1)) 414 k4 ((gI h 414 k4) + (gI h 399 k39))) 414 k4)) → (∃ k55 : Nat, (2 * ((144 * x) + y)) = nI k55 ∧ k55 < 864 ∧ ∃ k58 : Nat, (2 * (gI h 407 k1)) = nI k58 ∧ k58 < 16 ∧ (((gI h 417 k55) < (gI h 403 k58)) → (Q none (sI (sI (sI (sI (sI h 415 k4 ((gI h 415 k4) + 1)) 414 k4 ((gI h 414 k4) + (gI h 399 k39))) 416 k4 0) 415 k4 0) 433 k1 ((gI h 433 k1) + 1)))) ∧ (¬ ((gI h 417 k55) < (gI h 403 k58)) → (∃ k64 : Nat, ((2 * ((144 * x) + y)) + 1) = nI k64 ∧ k64 < 864 ∧ ∃ k67 : Nat, ((2 * (gI h 407 k1)) + 1) = nI k67 ∧ k67 < 16 ∧ (((gI h 417 k64) < (gI h 403 k67)) → (Q none (sI (sI (sI (sI (sI h 415 k4 ((gI h 415 k4) + 1)) 414 k4 ((gI h 414 k4) + (gI h 399 k39))) 416 k4 0) 415 k4 0) 433 k1 ((gI h 433 k1) + 1)))) ∧ (¬ ((gI h 417 k64) < (gI h 403 k67)) → (Q none (sI (sI (sI (sI (sI (sI (sI (sI (sI h 415 k4 ((gI h 415 k4) + 1)) 414 k4 ((gI h 414 k4) + (gI h 399 k39))) 416 k4 0) 415 k4 0) 433 k1 ((gI h 433 k1) + 1)) 417 k55 ((gI h 417 k55) - (gI h 403 k58))) 417 k64 ((gI (sI (sI (sI (sI (sI (sI h 415 k4 ((gI h 415 k4) + 1)) 414 k4 ((gI h 414 k4) + (gI h 399 k39))) 416 k4 0) 415 k4 0) 433 k1 ((gI h 433 k1) + 1)) 417 k55 ((gI h 417 k55) - (gI h 403 k58))) 417 k64) - (gI h 403 k67))) 416 k4 1) 415 k4 0))))))))) ∧ (¬ ((gI (sI (sI (sI h 415 k4 ((gI h 415 k4) + 1)) 414 k4 ((gI h 414 k4) + (gI h 399 k39))) 416 k4 0) 416 k4) = 0) → (Q none (sI (sI (sI (sI (sI h 415 k4 ((gI h 415 k4) + 1)) 414 k4 ((gI h 414 k4) + (gI h 399 k39))) 416 k4 0) 415 k4 0) 433 k1 ((gI h 433 k1) + 1)))))) ∧ (¬ ((gI (sI h 415 k4 ((gI h 415 k4) + 1)) 415 k4) = (gI h 401 k39)) → (Q none (sI h 415 k4 ((gI h 415 k4) + 1))))))) : ∃ r h', Sp L xs 155 [.ref 397, .int x, .int y] h r h' ∧ Q r h' := by
  refine sp_ex (ls := [some (.ref 397), some (.int x), some (.int y), none, none]) rfl ?_
  refine e_cn (pc' := 3) i155_0 rfl ?_
  refine e_ld (pc' := 4) i155_3 rfl rfl ?_
  refine e_ib (z := 144 * x) (pc' := 5) i155_4 rfl rfl ?_
  refine e_ld (pc' := 6) i155_5 rfl rfl ?_
  refine e_ib (z := (144 * x) + y) (pc' := 7) i155_6 rfl rfl ?_
  refine e_st (ls' := [some (.ref 397), some (.int x), some (.int y), some (.int ((144 * x) + y)), none]) (pc' := 8) i155_7 rfl rfl rfl ?_
  refine e_ld (pc' := 9) i155_8 rfl rfl ?_
  refine e_get (w := .ref 407) (pc' := 12) i155_9 rfl (x_isC (by decide) hw.1 sh397) (x_fvR (by decide +kernel) (hw.2 397 10 407 lk397_10)) ?_
  refine e_ld (pc' := 13) i155_12 rfl rfl ?_
  obtain ⟨k1, e2, g3, H⟩ := H
  refine e_al (n := k1) (w := .int (gI h 407 k1)) (pc' := 14) i155_13 rfl (x_alE (a := 20) (by decide) hw.1 sh407 (by decide) e2 g3 (by decide)) (x_clE e2 g3 (by decide)) rfl ?_
  refine e_st (ls' := [some (.ref 397), some (.int x), some (.int y), some (.int ((144 * x) + y)), some (.int (gI h 407 k1))]) (pc' := 16) i155_14 rfl rfl rfl ?_
  refine e_ld (pc' := 17) i155_16 rfl rfl ?_
  refine e_get (w := .ref 416) (pc' := 20) i155_17 rfl (x_isC (by decide) hw.1 sh397) (x_fvR (by decide +kernel) (hw.2 397 20 416 lk397_20)) ?_
  refine e_ld (pc' := 21) i155_20 rfl rfl ?_
  obtain ⟨k4, e5, g6, H⟩ := H
  refine e_al (n := k4) (w := .int (gI h 416 k4)) (pc' := 22) i155_21 rfl (x_alE (a := 22) (by decide) hw.1 sh416 (by decide) e5 g6 (by decide)) (x_clE e5 g6 (by decide)) rfl ?_
  refine e_if (pc' := 25) i155_22 rfl (fun c7 => ?_) (fun c7 => ?_)
  · have d8 : (gI h 416 k4) = 0 := (of_decide_eq_true c7)
    replace H := H.1 d8
    refine e_ld (pc' := 92) i155_91 rfl rfl ?_
    refine e_get (w := .ref 416) (pc' := 95) i155_92 rfl (x_isC (by decide) hw.1 sh397) (x_fvR (by decide +kernel) (hw.2 397 20 416 lk397_20)) ?_
    refine e_ld (pc' := 96) i155_95 rfl rfl ?_
    refine e_al (n := k4) (w := .int (gI h 416 k4)) (pc' := 97) i155_96 rfl (x_alE (a := 22) (by decide) hw.1 sh416 (by decide) e5 g6 (by decide)) (x_clE e5 g6 (by decide)) rfl ?_
    refine e_ifF (pc' := 100) i155_97 rfl (decide_eq_false (not_not_intro d8)) ?_
    refine e_ld (pc' := 101) i155_100 rfl rfl ?_
    refine e_get (w := .ref 414) (pc' := 104) i155_101 rfl (x_isC (by decide) hw.1 sh397) (x_fvR (by decide +kernel) (hw.2 397 18 414 lk397_18)) ?_
    refine e_ld (pc' := 105) i155_104 rfl rfl ?_
    refine e_al (n := k4) (w := .int (gI h 414 k4)) (pc' := 106) i155_105 rfl (x_alE (a := 20) (by decide) hw.1 sh414 (by decide) e5 g6 (by decide)) (x_clE e5 g6 (by decide)) rfl ?_
    refine e_ld (pc' := 107) i155_106 rfl rfl ?_
    refine e_get (w := .ref 399) (pc' := 110) i155_107 rfl (x_isC (by decide) hw.1 sh397) (x_fvR (by decide +kernel) (hw.2 397 2 399 lk397_2)) ?_
    refine e_ld (pc' := 112) i155_110 rfl rfl ?_
    obtain ⟨k9, e10, g11, H⟩ := H
    refine e_al (n := k9) (w := .int (gI h 399 k9)) (pc' := 113) i155_112 rfl (x_alE (a := 20) (by decide) hw.1 sh399 (by decide) e10 g11 (by decide)) (x_clE e10 g11 (by decide)) rfl ?_
    refine e_ic (pc' := 116) i155_113 rfl (fun c12 => ?_) (fun c12 => ?_)
    · have d13 : (gI h 399 k9) < (gI h 414 k4) := (of_decide_eq_true c12)
      replace H := H.1 d13
      refine e_rt i155_218 rfl ?_
      exact H
    · have d14 : ¬ ((gI h 399 k9) < (gI h 414 k4)) := (of_decide_eq_false c12)
      replace H := H.2 d14
      refine e_ld (pc' := 117) i155_116 rfl rfl ?_
      refine e_get (w := .ref 417) (pc' := 120) i155_117 rfl (x_isC (by decide) hw.1 sh397) (x_fvR (by decide +kernel) (hw.2 397 21 417 lk397_21)) ?_
      refine e_cn (pc' := 121) i155_120 rfl ?_
      refine e_ld (pc' := 122) i155_121 rfl rfl ?_
      refine e_ib (z := 2 * ((144 * x) + y)) (pc' := 123) i155_122 rfl rfl ?_
      obtain ⟨k15, e16, g17, H⟩ := H
      refine e_al (n := k15) (w := .int (gI h 417 k15)) (pc' := 124) i155_123 rfl (x_alE (a := 20) (by decide) hw.1 sh417 (by decide) e16 g17 (by decide)) (x_clE e16 g17 (by decide)) rfl ?_
      refine e_ld (pc' := 125) i155_124 rfl rfl ?_
      refine e_get (w := .ref 403) (pc' := 128) i155_125 rfl (x_isC (by decide) hw.1 sh397) (x_fvR (by decide +kernel) (hw.2 397 6 403 lk397_6)) ?_
      refine e_cn (pc' := 129) i155_128 rfl ?_
      refine e_ld (pc' := 131) i155_129 rfl rfl ?_
      refine e_ib (z := 2 * (gI h 407 k1)) (pc' := 132) i155_131 rfl rfl ?_
      obtain ⟨k18, e19, g20, H⟩ := H
      refine e_al (n := k18) (w := .int (gI h 403 k18)) (pc' := 133) i155_132 rfl (x_alE (a := 20) (by decide) hw.1 sh403 (by decide) e19 g20 (by decide)) (x_clE e19 g20 (by decide)) rfl ?_
      refine e_ic (pc' := 136) i155_133 rfl (fun c21 => ?_) (fun c21 => ?_)
      · have d22 : (gI h 417 k15) < (gI h 403 k18) := (of_decide_eq_true c21)
        replace H := H.1 d22
        refine e_rt i155_218 rfl ?_
        exact H
      · have d23 : ¬ ((gI h 417 k15) < (gI h 403 k18)) := (of_decide_eq_false c21)
        replace H := H.2 d23
        refine e_ld (pc' := 137) i155_136 rfl rfl ?_
        refine e_get (w := .ref 417) (pc' := 140) i155_137 rfl (x_isC (by decide) hw.1 sh397) (x_fvR (by decide +kernel) (hw.2 397 21 417 lk397_21)) ?_
        refine e_cn (pc' := 141) i155_140 rfl ?_
        refine e_ld (pc' := 142) i155_141 rfl rfl ?_
        refine e_ib (z := 2 * ((144 * x) + y)) (pc' := 143) i155_142 rfl rfl ?_
        refine e_cn (pc' := 144) i155_143 rfl ?_
        refine e_ib (z := (2 * ((144 * x) + y)) + 1) (pc' := 145) i155_144 rfl rfl ?_
        obtain ⟨k24, e25, g26, H⟩ := H
        refine e_al (n := k24) (w := .int (gI h 417 k24)) (pc' := 146) i155_145 rfl (x_alE (a := 20) (by decide) hw.1 sh417 (by decide) e25 g26 (by decide)) (x_clE e25 g26 (by decide)) rfl ?_
        refine e_ld (pc' := 147) i155_146 rfl rfl ?_
        refine e_get (w := .ref 403) (pc' := 150) i155_147 rfl (x_isC (by decide) hw.1 sh397) (x_fvR (by decide +kernel) (hw.2 397 6 403 lk397_6)) ?_
        refine e_cn (pc' := 151) i155_150 rfl ?_
        refine e_ld (pc' := 153) i155_151 rfl rfl ?_
        refine e_ib (z := 2 * (gI h 407 k1)) (pc' := 154) i155_153 rfl rfl ?_
        refine e_cn (pc' := 155) i155_154 rfl ?_
        refine e_ib (z := (2 * (gI h 407 k1)) + 1) (pc' := 156) i155_155 rfl rfl ?_
        obtain ⟨k27, e28, g29, H⟩ := H
        refine e_al (n := k27) (w := .int (gI h 403 k27)) (pc' := 157) i155_156 rfl (x_alE (a := 20) (by decide) hw.1 sh403 (by decide) e28 g29 (by decide)) (x_clE e28 g29 (by decide)) rfl ?_
        refine e_ic (pc' := 160) i155_157 rfl (fun c30 => ?_) (fun c30 => ?_)
        · have d31 : (gI h 417 k24) < (gI h 403 k27) := (of_decide_eq_true c30)
          replace H := H.1 d31
          refine e_rt i155_218 rfl ?_
          exact H
        · have d32 : ¬ ((gI h 417 k24) < (gI h 403 k27)) := (of_decide_eq_false c30)
          replace H := H.2 d32
          refine e_ld (pc' := 161) i155_160 rfl rfl ?_
          refine e_get (w := .ref 417) (pc' := 164) i155_161 rfl (x_isC (by decide) hw.1 sh397) (x_fvR (by decide +kernel) (hw.2 397 21 417 lk397_21)) ?_
          refine e_cn (pc' := 165) i155_164 rfl ?_
          refine e_ld (pc' := 166) i155_165 rfl rfl ?_
          refine e_ib (z := 2 * ((144 * x) + y)) (pc' := 167) i155_166 rfl rfl ?_
          refine e_stk (pc' := 168) i155_167 rfl rfl ?_
          refine e_al (n := k15) (w := .int (gI h 417 k15)) (pc' := 169) i155_168 rfl (x_alE (a := 20) (by decide) hw.1 sh417 (by decide) e16 g17 (by decide)) (x_clE e16 g17 (by decide)) rfl ?_
          refine e_ld (pc' := 170) i155_169 rfl rfl ?_
          refine e_get (w := .ref 403) (pc' := 173) i155_170 rfl (x_isC (by decide) hw.1 sh397) (x_fvR (by decide +kernel) (hw.2 397 6 403 lk397_6)) ?_
          refine e_cn (pc' := 174) i155_173 rfl ?_
          refine e_ld (pc' := 176) i155_174 rfl rfl ?_
          refine e_ib (z := 2 * (gI h 407 k1)) (pc' := 177) i155_176 rfl rfl ?_
          refine e_al (n := k18) (w := .int (gI h 403 k18)) (pc' := 178) i155_177 rfl (x_alE (a := 20) (by decide) hw.1 sh403 (by decide) e19 g20 (by decide)) (x_clE e19 g20 (by decide)) rfl ?_
          refine e_ib (z := (gI h 417 k15) - (gI h 403 k18)) (pc' := 179) i155_178 rfl rfl ?_
          refine e_as (n := k15) (h' := sI h 417 k15 ((gI h 417 k15) - (gI h 403 k18))) (pc' := 180) i155_179 rfl (x_alE (a := 20) (by decide) hw.1 sh417 (by decide) e16 g17 (by decide)) (x_clE e16 g17 (by decide)) (by rw [(show (SH 417).1 = 20 by rw [sh417])]; rfl) ?_
          have w34 : HW (sI h 417 k15 ((gI h 417 k15) - (gI h 403 k18))) := HW_sI hw
          refine e_ld (pc' := 181) i155_180 rfl rfl ?_
          refine e_get (w := .ref 417) (pc' := 184) i155_181 rfl (x_isC (by decide) w34.1 sh397) (x_fvR (by decide +kernel) (w34.2 397 21 417 lk397_21)) ?_
          refine e_cn (pc' := 185) i155_184 rfl ?_
          refine e_ld (pc' := 186) i155_185 rfl rfl ?_
          refine e_ib (z := 2 * ((144 * x) + y)) (pc' := 187) i155_186 rfl rfl ?_
          refine e_cn (pc' := 188) i155_187 rfl ?_
          refine e_ib (z := (2 * ((144 * x) + y)) + 1) (pc' := 189) i155_188 rfl rfl ?_
          refine e_stk (pc' := 190) i155_189 rfl rfl ?_
          refine e_al (n := k24) (w := .int (gI (sI h 417 k15 ((gI h 417 k15) - (gI h 403 k18))) 417 k24)) (pc' := 191) i155_190 rfl (x_alE (a := 20) (by decide) w34.1 sh417 (by decide) e25 g26 (by decide)) (x_clE e25 g26 (by decide)) rfl ?_
          refine e_ld (pc' := 192) i155_191 rfl rfl ?_
          refine e_get (w := .ref 403) (pc' := 195) i155_192 rfl (x_isC (by decide) w34.1 sh397) (x_fvR (by decide +kernel) (w34.2 397 6 403 lk397_6)) ?_
          refine e_cn (pc' := 196) i155_195 rfl ?_
          refine e_ld (pc' := 198) i155_196 rfl rfl ?_
          refine e_ib (z := 2 * (gI h 407 k1)) (pc' := 199) i155_198 rfl rfl ?_
          refine e_cn (pc' := 200) i155_199 rfl ?_
          refine e_ib (z := (2 * (gI h 407 k1)) + 1) (pc' := 201) i155_200 rfl rfl ?_
          refine e_al (n := k27) (w := .int (gI h 403 k27)) (pc' := 202) i155_201 rfl (x_alE (a := 20) (by decide) w34.1 sh403 (by decide) e28 g29 (by decide)) (x_clE e28 g29 (by decide)) (congrArg Value.int (gI_osI (by decide))) ?_
          refine e_ib (z := (gI (sI h 417 k15 ((gI h 417 k15) - (gI h 403 k18))) 417 k24) - (gI h 403 k27)) (pc' := 203) i155_202 rfl rfl ?_
          refine e_as (n := k24) (h' := sI (sI h 417 k15 ((gI h 417 k15) - (gI h 403 k18))) 417 k24 ((gI (sI h 417 k15 ((gI h 417 k15) - (gI h 403 k18))) 417 k24) - (gI h 403 k27))) (pc' := 204) i155_203 rfl (x_alE (a := 20) (by decide) w34.1 sh417 (by decide) e25 g26 (by decide)) (x_clE e25 g26 (by decide)) (by rw [(show (SH 417).1 = 20 by rw [sh417])]; rfl) ?_
          have w36 : HW (sI (sI h 417 k15 ((gI h 417 k15) - (gI h 403 k18))) 417 k24 ((gI (sI h 417 k15 ((gI h 417 k15) - (gI h 403 k18))) 417 k24) - (gI h 403 k27))) := HW_sI w34
          refine e_ld (pc' := 205) i155_204 rfl rfl ?_
          refine e_get (w := .ref 416) (pc' := 208) i155_205 rfl (x_isC (by decide) w36.1 sh397) (x_fvR (by decide +kernel) (w36.2 397 20 416 lk397_20)) ?_
          refine e_ld (pc' := 209) i155_208 rfl rfl ?_
          refine e_cn (pc' := 210) i155_209 rfl ?_
          refine e_as (n := k4) (h' := sI (sI (sI h 417 k15 ((gI h 417 k15) - (gI h 403 k18))) 417 k24 ((gI (sI h 417 k15 ((gI h 417 k15) - (gI h 403 k18))) 417 k24) - (gI h 403 k27))) 416 k4 1) (pc' := 211) i155_210 rfl (x_alE (a := 22) (by decide) w36.1 sh416 (by decide) e5 g6 (by decide)) (x_clE e5 g6 (by decide)) (by rw [(show (SH 416).1 = 22 by rw [sh416])]; rfl) ?_
          have w38 : HW (sI (sI (sI h 417 k15 ((gI h 417 k15) - (gI h 403 k18))) 417 k24 ((gI (sI h 417 k15 ((gI h 417 k15) - (gI h 403 k18))) 417 k24) - (gI h 403 k27))) 416 k4 1) := HW_sI w36
          refine e_ld (pc' := 212) i155_211 rfl rfl ?_
          refine e_get (w := .ref 415) (pc' := 215) i155_212 rfl (x_isC (by decide) w38.1 sh397) (x_fvR (by decide +kernel) (w38.2 397 19 415 lk397_19)) ?_
          refine e_ld (pc' := 216) i155_215 rfl rfl ?_
          refine e_cn (pc' := 217) i155_216 rfl ?_
          refine e_as (n := k4) (h' := sI (sI (sI (sI h 417 k15 ((gI h 417 k15) - (gI h 403 k18))) 417 k24 ((gI (sI h 417 k15 ((gI h 417 k15) - (gI h 403 k18))) 417 k24) - (gI h 403 k27))) 416 k4 1) 415 k4 0) (pc' := 218) i155_217 rfl (x_alE (a := 20) (by decide) w38.1 sh415 (by decide) e5 g6 (by decide)) (x_clE e5 g6 (by decide)) (by rw [(show (SH 415).1 = 20 by rw [sh415])]; rfl) ?_
          have w40 : HW (sI (sI (sI (sI h 417 k15 ((gI h 417 k15) - (gI h 403 k18))) 417 k24 ((gI (sI h 417 k15 ((gI h 417 k15) - (gI h 403 k18))) 417 k24) - (gI h 403 k27))) 416 k4 1) 415 k4 0) := HW_sI w38
          refine e_rt i155_218 rfl ?_
          exact H
  · have d37 : ¬ ((gI h 416 k4) = 0) := (of_decide_eq_false c7)
    replace H := H.2 d37
    refine e_ld (pc' := 26) i155_25 rfl rfl ?_
    refine e_get (w := .ref 415) (pc' := 29) i155_26 rfl (x_isC (by decide) hw.1 sh397) (x_fvR (by decide +kernel) (hw.2 397 19 415 lk397_19)) ?_
    refine e_ld (pc' := 30) i155_29 rfl rfl ?_
    refine e_stk (pc' := 31) i155_30 rfl rfl ?_
    refine e_al (n := k4) (w := .int (gI h 415 k4)) (pc' := 32) i155_31 rfl (x_alE (a := 20) (by decide) hw.1 sh415 (by decide) e5 g6 (by decide)) (x_clE e5 g6 (by decide)) rfl ?_
    refine e_cn (pc' := 33) i155_32 rfl ?_
    refine e_ib (z := (gI h 415 k4) + 1) (pc' := 34) i155_33 rfl rfl ?_
    refine e_as (n := k4) (h' := sI h 415 k4 ((gI h 415 k4) + 1)) (pc' := 35) i155_34 rfl (x_alE (a := 20) (by decide) hw.1 sh415 (by decide) e5 g6 (by decide)) (x_clE e5 g6 (by decide)) (by rw [(show (SH 415).1 = 20 by rw [sh415])]; rfl) ?_
    have w39 : HW (sI h 415 k4 ((gI h 415 k4) + 1)) := HW_sI hw
    refine e_ld (pc' := 36) i155_35 rfl rfl ?_
    refine e_get (w := .ref 415) (pc' := 39) i155_36 rfl (x_isC (by decide) w39.1 sh397) (x_fvR (by decide +kernel) (w39.2 397 19 415 lk397_19)) ?_
    refine e_ld (pc' := 40) i155_39 rfl rfl ?_
    refine e_al (n := k4) (w := .int (gI (sI h 415 k4 ((gI h 415 k4) + 1)) 415 k4)) (pc' := 41) i155_40 rfl (x_alE (a := 20) (by decide) w39.1 sh415 (by decide) e5 g6 (by decide)) (x_clE e5 g6 (by decide)) rfl ?_
    refine e_ld (pc' := 42) i155_41 rfl rfl ?_
    refine e_get (w := .ref 401) (pc' := 45) i155_42 rfl (x_isC (by decide) w39.1 sh397) (x_fvR (by decide +kernel) (w39.2 397 4 401 lk397_4)) ?_
    refine e_ld (pc' := 47) i155_45 rfl rfl ?_
    obtain ⟨k39, e40, g41, H⟩ := H
    refine e_al (n := k39) (w := .int (gI h 401 k39)) (pc' := 48) i155_47 rfl (x_alE (a := 20) (by decide) w39.1 sh401 (by decide) e40 g41 (by decide)) (x_clE e40 g41 (by decide)) (congrArg Value.int (gI_osI (by decide))) ?_
    refine e_ic (pc' := 51) i155_48 rfl (fun c42 => ?_) (fun c42 => ?_)
    · have d43 : ¬ ((gI (sI h 415 k4 ((gI h 415 k4) + 1)) 415 k4) = (gI h 401 k39)) := (of_decide_eq_true c42)
      replace H := H.2 d43
      refine e_ld (pc' := 92) i155_91 rfl rfl ?_
      refine e_get (w := .ref 416) (pc' := 95) i155_92 rfl (x_isC (by decide) w39.1 sh397) (x_fvR (by decide +kernel) (w39.2 397 20 416 lk397_20)) ?_
      refine e_ld (pc' := 96) i155_95 rfl rfl ?_
      refine e_al (n := k4) (w := .int (gI h 416 k4)) (pc' := 97) i155_96 rfl (x_alE (a := 22) (by decide) w39.1 sh416 (by decide) e5 g6 (by decide)) (x_clE e5 g6 (by decide)) (congrArg Value.int (gI_osI (by decide))) ?_
      refine e_ifT i155_97 (decide_eq_true d37) ?_
      refine e_rt i155_218 rfl ?_
      exact H
    · have d44 : (gI (sI h 415 k4 ((gI h 415 k4) + 1)) 415 k4) = (gI h 401 k39) := (Decidable.not_not.mp (of_decide_eq_false c42))
      replace H := H.1 d44
      refine e_ld (pc' := 52) i155_51 rfl rfl ?_
      refine e_get (w := .ref 414) (pc' := 55) i155_52 rfl (x_isC (by decide) w39.1 sh397) (x_fvR (by decide +kernel) (w39.2 397 18 414 lk397_18)) ?_
      refine e_ld (pc' := 56) i155_55 rfl rfl ?_
      refine e_stk (pc' := 57) i155_56 rfl rfl ?_
      refine e_al (n := k4) (w := .int (gI h 414 k4)) (pc' := 58) i155_57 rfl (x_alE (a := 20) (by decide) w39.1 sh414 (by decide) e5 g6 (by decide)) (x_clE e5 g6 (by decide)) (congrArg Value.int (gI_osI (by decide))) ?_
      refine e_ld (pc' := 59) i155_58 rfl rfl ?_
      refine e_get (w := .ref 399) (pc' := 62) i155_59 rfl (x_isC (by decide) w39.1 sh397) (x_fvR (by decide +kernel) (w39.2 397 2 399 lk397_2)) ?_
      refine e_ld (pc' := 64) i155_62 rfl rfl ?_
      refine e_al (n := k39) (w := .int (gI h 399 k39)) (pc' := 65) i155_64 rfl (x_alE (a := 20) (by decide) w39.1 sh399 (by decide) e40 g41 (by decide)) (x_clE e40 g41 (by decide)) (congrArg Value.int (gI_osI (by decide))) ?_
      refine e_ib (z := (gI h 414 k4) + (gI h 399 k39)) (pc' := 66) i155_65 rfl rfl ?_
      refine e_as (n := k4) (h' := sI (sI h 415 k4 ((gI h 415 k4) + 1)) 414 k4 ((gI h 414 k4) + (gI h 399 k39))) (pc' := 67) i155_66 rfl (x_alE (a := 20) (by decide) w39.1 sh414 (by decide) e5 g6 (by decide)) (x_clE e5 g6 (by decide)) (by rw [(show (SH 414).1 = 20 by rw [sh414])]; rfl) ?_
      have w47 : HW (sI (sI h 415 k4 ((gI h 415 k4) + 1)) 414 k4 ((gI h 414 k4) + (gI h 399 k39))) := HW_sI w39
      refine e_ld (pc' := 68) i155_67 rfl rfl ?_
      refine e_get (w := .ref 416) (pc' := 71) i155_68 rfl (x_isC (by decide) w47.1 sh397) (x_fvR (by decide +kernel) (w47.2 397 20 416 lk397_20)) ?_
      refine e_ld (pc' := 72) i155_71 rfl rfl ?_
      refine e_cn (pc' := 73) i155_72 rfl ?_
      refine e_as (n := k4) (h' := sI (sI (sI h 415 k4 ((gI h 415 k4) + 1)) 414 k4 ((gI h 414 k4) + (gI h 399 k39))) 416 k4 0) (pc' := 74) i155_73 rfl (x_alE (a := 22) (by decide) w47.1 sh416 (by decide) e5 g6 (by decide)) (x_clE e5 g6 (by decide)) (by rw [(show (SH 416).1 = 22 by rw [sh416])]; rfl) ?_
      have w49 : HW (sI (sI (sI h 415 k4 ((gI h 415 k4) + 1)) 414 k4 ((gI h 414 k4) + (gI h 399 k39))) 416 k4 0) := HW_sI w47
      refine e_ld (pc' := 75) i155_74 rfl rfl ?_
      refine e_get (w := .ref 415) (pc' := 78) i155_75 rfl (x_isC (by decide) w49.1 sh397) (x_fvR (by decide +kernel) (w49.2 397 19 415 lk397_19)) ?_
      refine e_ld (pc' := 79) i155_78 rfl rfl ?_
      refine e_cn (pc' := 80) i155_79 rfl ?_
      refine e_as (n := k4) (h' := sI (sI (sI (sI h 415 k4 ((gI h 415 k4) + 1)) 414 k4 ((gI h 414 k4) + (gI h 399 k39))) 416 k4 0) 415 k4 0) (pc' := 81) i155_80 rfl (x_alE (a := 20) (by decide) w49.1 sh415 (by decide) e5 g6 (by decide)) (x_clE e5 g6 (by decide)) (by rw [(show (SH 415).1 = 20 by rw [sh415])]; rfl) ?_
      have w51 : HW (sI (sI (sI (sI h 415 k4 ((gI h 415 k4) + 1)) 414 k4 ((gI h 414 k4) + (gI h 399 k39))) 416 k4 0) 415 k4 0) := HW_sI w49
      refine e_ld (pc' := 82) i155_81 rfl rfl ?_
      refine e_get (w := .ref 433) (pc' := 85) i155_82 rfl (x_isC (by decide) w51.1 sh397) (x_fvR (by decide +kernel) (w51.2 397 39 433 lk397_39)) ?_
      refine e_ld (pc' := 86) i155_85 rfl rfl ?_
      refine e_stk (pc' := 87) i155_86 rfl rfl ?_
      refine e_al (n := k1) (w := .int (gI h 433 k1)) (pc' := 88) i155_87 rfl (x_alE (a := 20) (by decide) w51.1 sh433 (by decide) e2 g3 (by decide)) (x_clE e2 g3 (by decide)) (congrArg Value.int (Eq.trans (gI_osI (by decide)) (Eq.trans (gI_osI (by decide)) (Eq.trans (gI_osI (by decide)) (gI_osI (by decide)))))) ?_
      refine e_cn (pc' := 89) i155_88 rfl ?_
      refine e_ib (z := (gI h 433 k1) + 1) (pc' := 90) i155_89 rfl rfl ?_
      refine e_as (n := k1) (h' := sI (sI (sI (sI (sI h 415 k4 ((gI h 415 k4) + 1)) 414 k4 ((gI h 414 k4) + (gI h 399 k39))) 416 k4 0) 415 k4 0) 433 k1 ((gI h 433 k1) + 1)) (pc' := 91) i155_90 rfl (x_alE (a := 20) (by decide) w51.1 sh433 (by decide) e2 g3 (by decide)) (x_clE e2 g3 (by decide)) (by rw [(show (SH 433).1 = 20 by rw [sh433])]; rfl) ?_
      have w53 : HW (sI (sI (sI (sI (sI h 415 k4 ((gI h 415 k4) + 1)) 414 k4 ((gI h 414 k4) + (gI h 399 k39))) 416 k4 0) 415 k4 0) 433 k1 ((gI h 433 k1) + 1)) := HW_sI w51
      refine e_ld (pc' := 92) i155_91 rfl rfl ?_
      refine e_get (w := .ref 416) (pc' := 95) i155_92 rfl (x_isC (by decide) w53.1 sh397) (x_fvR (by decide +kernel) (w53.2 397 20 416 lk397_20)) ?_
      refine e_ld (pc' := 96) i155_95 rfl rfl ?_
      refine e_al (n := k4) (w := .int (gI (sI (sI (sI h 415 k4 ((gI h 415 k4) + 1)) 414 k4 ((gI h 414 k4) + (gI h 399 k39))) 416 k4 0) 416 k4)) (pc' := 97) i155_96 rfl (x_alE (a := 22) (by decide) w53.1 sh416 (by decide) e5 g6 (by decide)) (x_clE e5 g6 (by decide)) (congrArg Value.int (Eq.trans (gI_osI (by decide)) (gI_osI (by decide)))) ?_
      refine e_if (pc' := 100) i155_97 rfl (fun c49 => ?_) (fun c49 => ?_)
      · have d50 : ¬ ((gI (sI (sI (sI h 415 k4 ((gI h 415 k4) + 1)) 414 k4 ((gI h 414 k4) + (gI h 399 k39))) 416 k4 0) 416 k4) = 0) := (of_decide_eq_true c49)
        replace H := H.2 d50
        refine e_rt i155_218 rfl ?_
        exact H
      · have d51 : (gI (sI (sI (sI h 415 k4 ((gI h 415 k4) + 1)) 414 k4 ((gI h 414 k4) + (gI h 399 k39))) 416 k4 0) 416 k4) = 0 := (Decidable.not_not.mp (of_decide_eq_false c49))
        replace H := H.1 d51
        refine e_ld (pc' := 101) i155_100 rfl rfl ?_
        refine e_get (w := .ref 414) (pc' := 104) i155_101 rfl (x_isC (by decide) w53.1 sh397) (x_fvR (by decide +kernel) (w53.2 397 18 414 lk397_18)) ?_
        refine e_ld (pc' := 105) i155_104 rfl rfl ?_
        refine e_al (n := k4) (w := .int (gI (sI (sI h 415 k4 ((gI h 415 k4) + 1)) 414 k4 ((gI h 414 k4) + (gI h 399 k39))) 414 k4)) (pc' := 106) i155_105 rfl (x_alE (a := 20) (by decide) w53.1 sh414 (by decide) e5 g6 (by decide)) (x_clE e5 g6 (by decide)) (congrArg Value.int (Eq.trans (gI_osI (by decide)) (Eq.trans (gI_osI (by decide)) (gI_osI (by decide))))) ?_
        refine e_ld (pc' := 107) i155_106 rfl rfl ?_
        refine e_get (w := .ref 399) (pc' := 110) i155_107 rfl (x_isC (by decide) w53.1 sh397) (x_fvR (by decide +kernel) (w53.2 397 2 399 lk397_2)) ?_
        refine e_ld (pc' := 112) i155_110 rfl rfl ?_
        refine e_al (n := k39) (w := .int (gI h 399 k39)) (pc' := 113) i155_112 rfl (x_alE (a := 20) (by decide) w53.1 sh399 (by decide) e40 g41 (by decide)) (x_clE e40 g41 (by decide)) (congrArg Value.int (Eq.trans (gI_osI (by decide)) (Eq.trans (gI_osI (by decide)) (Eq.trans (gI_osI (by decide)) (Eq.trans (gI_osI (by decide)) (gI_osI (by decide))))))) ?_
        refine e_ic (pc' := 116) i155_113 rfl (fun c52 => ?_) (fun c52 => ?_)
        · have d53 : (gI h 399 k39) < (gI (sI (sI h 415 k4 ((gI h 415 k4) + 1)) 414 k4 ((gI h 414 k4) + (gI h 399 k39))) 414 k4) := (of_decide_eq_true c52)
          replace H := H.1 d53
          refine e_rt i155_218 rfl ?_
          exact H
        · have d54 : ¬ ((gI h 399 k39) < (gI (sI (sI h 415 k4 ((gI h 415 k4) + 1)) 414 k4 ((gI h 414 k4) + (gI h 399 k39))) 414 k4)) := (of_decide_eq_false c52)
          replace H := H.2 d54
          refine e_ld (pc' := 117) i155_116 rfl rfl ?_
          refine e_get (w := .ref 417) (pc' := 120) i155_117 rfl (x_isC (by decide) w53.1 sh397) (x_fvR (by decide +kernel) (w53.2 397 21 417 lk397_21)) ?_
          refine e_cn (pc' := 121) i155_120 rfl ?_
          refine e_ld (pc' := 122) i155_121 rfl rfl ?_
          refine e_ib (z := 2 * ((144 * x) + y)) (pc' := 123) i155_122 rfl rfl ?_
          obtain ⟨k55, e56, g57, H⟩ := H
          refine e_al (n := k55) (w := .int (gI h 417 k55)) (pc' := 124) i155_123 rfl (x_alE (a := 20) (by decide) w53.1 sh417 (by decide) e56 g57 (by decide)) (x_clE e56 g57 (by decide)) (congrArg Value.int (Eq.trans (gI_osI (by decide)) (Eq.trans (gI_osI (by decide)) (Eq.trans (gI_osI (by decide)) (Eq.trans (gI_osI (by decide)) (gI_osI (by decide))))))) ?_
          refine e_ld (pc' := 125) i155_124 rfl rfl ?_
          refine e_get (w := .ref 403) (pc' := 128) i155_125 rfl (x_isC (by decide) w53.1 sh397) (x_fvR (by decide +kernel) (w53.2 397 6 403 lk397_6)) ?_
          refine e_cn (pc' := 129) i155_128 rfl ?_
          refine e_ld (pc' := 131) i155_129 rfl rfl ?_
          refine e_ib (z := 2 * (gI h 407 k1)) (pc' := 132) i155_131 rfl rfl ?_
          obtain ⟨k58, e59, g60, H⟩ := H
          refine e_al (n := k58) (w := .int (gI h 403 k58)) (pc' := 133) i155_132 rfl (x_alE (a := 20) (by decide) w53.1 sh403 (by decide) e59 g60 (by decide)) (x_clE e59 g60 (by decide)) (congrArg Value.int (Eq.trans (gI_osI (by decide)) (Eq.trans (gI_osI (by decide)) (Eq.trans (gI_osI (by decide)) (Eq.trans (gI_osI (by decide)) (gI_osI (by decide))))))) ?_
          refine e_ic (pc' := 136) i155_133 rfl (fun c61 => ?_) (fun c61 => ?_)
          · have d62 : (gI h 417 k55) < (gI h 403 k58) := (of_decide_eq_true c61)
            replace H := H.1 d62
            refine e_rt i155_218 rfl ?_
            exact H
          · have d63 : ¬ ((gI h 417 k55) < (gI h 403 k58)) := (of_decide_eq_false c61)
            replace H := H.2 d63
            refine e_ld (pc' := 137) i155_136 rfl rfl ?_
            refine e_get (w := .ref 417) (pc' := 140) i155_137 rfl (x_isC (by decide) w53.1 sh397) (x_fvR (by decide +kernel) (w53.2 397 21 417 lk397_21)) ?_
            refine e_cn (pc' := 141) i155_140 rfl ?_
            refine e_ld (pc' := 142) i155_141 rfl rfl ?_
            refine e_ib (z := 2 * ((144 * x) + y)) (pc' := 143) i155_142 rfl rfl ?_
            refine e_cn (pc' := 144) i155_143 rfl ?_
            refine e_ib (z := (2 * ((144 * x) + y)) + 1) (pc' := 145) i155_144 rfl rfl ?_
            obtain ⟨k64, e65, g66, H⟩ := H
            refine e_al (n := k64) (w := .int (gI h 417 k64)) (pc' := 146) i155_145 rfl (x_alE (a := 20) (by decide) w53.1 sh417 (by decide) e65 g66 (by decide)) (x_clE e65 g66 (by decide)) (congrArg Value.int (Eq.trans (gI_osI (by decide)) (Eq.trans (gI_osI (by decide)) (Eq.trans (gI_osI (by decide)) (Eq.trans (gI_osI (by decide)) (gI_osI (by decide))))))) ?_
            refine e_ld (pc' := 147) i155_146 rfl rfl ?_
            refine e_get (w := .ref 403) (pc' := 150) i155_147 rfl (x_isC (by decide) w53.1 sh397) (x_fvR (by decide +kernel) (w53.2 397 6 403 lk397_6)) ?_
            refine e_cn (pc' := 151) i155_150 rfl ?_
            refine e_ld (pc' := 153) i155_151 rfl rfl ?_
            refine e_ib (z := 2 * (gI h 407 k1)) (pc' := 154) i155_153 rfl rfl ?_
            refine e_cn (pc' := 155) i155_154 rfl ?_
            refine e_ib (z := (2 * (gI h 407 k1)) + 1) (pc' := 156) i155_155 rfl rfl ?_
            obtain ⟨k67, e68, g69, H⟩ := H
            refine e_al (n := k67) (w := .int (gI h 403 k67)) (pc' := 157) i155_156 rfl (x_alE (a := 20) (by decide) w53.1 sh403 (by decide) e68 g69 (by decide)) (x_clE e68 g69 (by decide)) (congrArg Value.int (Eq.trans (gI_osI (by decide)) (Eq.trans (gI_osI (by decide)) (Eq.trans (gI_osI (by decide)) (Eq.trans (gI_osI (by decide)) (gI_osI (by decide))))))) ?_
            refine e_ic (pc' := 160) i155_157 rfl (fun c70 => ?_) (fun c70 => ?_)
            · have d71 : (gI h 417 k64) < (gI h 403 k67) := (of_decide_eq_true c70)
              replace H := H.1 d71
              refine e_rt i155_218 rfl ?_
              exact H
            · have d72 : ¬ ((gI h 417 k64) < (gI h 403 k67)) := (of_decide_eq_false c70)
              replace H := H.2 d72
              refine e_ld (pc' := 161) i155_160 rfl rfl ?_
              refine e_get (w := .ref 417) (pc' := 164) i155_161 rfl (x_isC (by decide) w53.1 sh397) (x_fvR (by decide +kernel) (w53.2 397 21 417 lk397_21)) ?_
              refine e_cn (pc' := 165) i155_164 rfl ?_
              refine e_ld (pc' := 166) i155_165 rfl rfl ?_
              refine e_ib (z := 2 * ((144 * x) + y)) (pc' := 167) i155_166 rfl rfl ?_
              refine e_stk (pc' := 168) i155_167 rfl rfl ?_
              refine e_al (n := k55) (w := .int (gI h 417 k55)) (pc' := 169) i155_168 rfl (x_alE (a := 20) (by decide) w53.1 sh417 (by decide) e56 g57 (by decide)) (x_clE e56 g57 (by decide)) (congrArg Value.int (Eq.trans (gI_osI (by decide)) (Eq.trans (gI_osI (by decide)) (Eq.trans (gI_osI (by decide)) (Eq.trans (gI_osI (by decide)) (gI_osI (by decide))))))) ?_
              refine e_ld (pc' := 170) i155_169 rfl rfl ?_
              refine e_get (w := .ref 403) (pc' := 173) i155_170 rfl (x_isC (by decide) w53.1 sh397) (x_fvR (by decide +kernel) (w53.2 397 6 403 lk397_6)) ?_
              refine e_cn (pc' := 174) i155_173 rfl ?_
              refine e_ld (pc' := 176) i155_174 rfl rfl ?_
              refine e_ib (z := 2 * (gI h 407 k1)) (pc' := 177) i155_176 rfl rfl ?_
              refine e_al (n := k58) (w := .int (gI h 403 k58)) (pc' := 178) i155_177 rfl (x_alE (a := 20) (by decide) w53.1 sh403 (by decide) e59 g60 (by decide)) (x_clE e59 g60 (by decide)) (congrArg Value.int (Eq.trans (gI_osI (by decide)) (Eq.trans (gI_osI (by decide)) (Eq.trans (gI_osI (by decide)) (Eq.trans (gI_osI (by decide)) (gI_osI (by decide))))))) ?_
              refine e_ib (z := (gI h 417 k55) - (gI h 403 k58)) (pc' := 179) i155_178 rfl rfl ?_
              refine e_as (n := k55) (h' := sI (sI (sI (sI (sI (sI h 415 k4 ((gI h 415 k4) + 1)) 414 k4 ((gI h 414 k4) + (gI h 399 k39))) 416 k4 0) 415 k4 0) 433 k1 ((gI h 433 k1) + 1)) 417 k55 ((gI h 417 k55) - (gI h 403 k58))) (pc' := 180) i155_179 rfl (x_alE (a := 20) (by decide) w53.1 sh417 (by decide) e56 g57 (by decide)) (x_clE e56 g57 (by decide)) (by rw [(show (SH 417).1 = 20 by rw [sh417])]; rfl) ?_
              have w79 : HW (sI (sI (sI (sI (sI (sI h 415 k4 ((gI h 415 k4) + 1)) 414 k4 ((gI h 414 k4) + (gI h 399 k39))) 416 k4 0) 415 k4 0) 433 k1 ((gI h 433 k1) + 1)) 417 k55 ((gI h 417 k55) - (gI h 403 k58))) := HW_sI w53
              refine e_ld (pc' := 181) i155_180 rfl rfl ?_
              refine e_get (w := .ref 417) (pc' := 184) i155_181 rfl (x_isC (by decide) w79.1 sh397) (x_fvR (by decide +kernel) (w79.2 397 21 417 lk397_21)) ?_
              refine e_cn (pc' := 185) i155_184 rfl ?_
              refine e_ld (pc' := 186) i155_185 rfl rfl ?_
              refine e_ib (z := 2 * ((144 * x) + y)) (pc' := 187) i155_186 rfl rfl ?_
              refine e_cn (pc' := 188) i155_187 rfl ?_
              refine e_ib (z := (2 * ((144 * x) + y)) + 1) (pc' := 189) i155_188 rfl rfl ?_
              refine e_stk (pc' := 190) i155_189 rfl rfl ?_
              refine e_al (n := k64) (w := .int (gI (sI (sI (sI (sI (sI (sI h 415 k4 ((gI h 415 k4) + 1)) 414 k4 ((gI h 414 k4) + (gI h 399 k39))) 416 k4 0) 415 k4 0) 433 k1 ((gI h 433 k1) + 1)) 417 k55 ((gI h 417 k55) - (gI h 403 k58))) 417 k64)) (pc' := 191) i155_190 rfl (x_alE (a := 20) (by decide) w79.1 sh417 (by decide) e65 g66 (by decide)) (x_clE e65 g66 (by decide)) rfl ?_
              refine e_ld (pc' := 192) i155_191 rfl rfl ?_
              refine e_get (w := .ref 403) (pc' := 195) i155_192 rfl (x_isC (by decide) w79.1 sh397) (x_fvR (by decide +kernel) (w79.2 397 6 403 lk397_6)) ?_
              refine e_cn (pc' := 196) i155_195 rfl ?_
              refine e_ld (pc' := 198) i155_196 rfl rfl ?_
              refine e_ib (z := 2 * (gI h 407 k1)) (pc' := 199) i155_198 rfl rfl ?_
              refine e_cn (pc' := 200) i155_199 rfl ?_
              refine e_ib (z := (2 * (gI h 407 k1)) + 1) (pc' := 201) i155_200 rfl rfl ?_
              refine e_al (n := k67) (w := .int (gI h 403 k67)) (pc' := 202) i155_201 rfl (x_alE (a := 20) (by decide) w79.1 sh403 (by decide) e68 g69 (by decide)) (x_clE e68 g69 (by decide)) (congrArg Value.int (Eq.trans (gI_osI (by decide)) (Eq.trans (gI_osI (by decide)) (Eq.trans (gI_osI (by decide)) (Eq.trans (gI_osI (by decide)) (Eq.trans (gI_osI (by decide)) (gI_osI (by decide)))))))) ?_
              refine e_ib (z := (gI (sI (sI (sI (sI (sI (sI h 415 k4 ((gI h 415 k4) + 1)) 414 k4 ((gI h 414 k4) + (gI h 399 k39))) 416 k4 0) 415 k4 0) 433 k1 ((gI h 433 k1) + 1)) 417 k55 ((gI h 417 k55) - (gI h 403 k58))) 417 k64) - (gI h 403 k67)) (pc' := 203) i155_202 rfl rfl ?_
              refine e_as (n := k64) (h' := sI (sI (sI (sI (sI (sI (sI h 415 k4 ((gI h 415 k4) + 1)) 414 k4 ((gI h 414 k4) + (gI h 399 k39))) 416 k4 0) 415 k4 0) 433 k1 ((gI h 433 k1) + 1)) 417 k55 ((gI h 417 k55) - (gI h 403 k58))) 417 k64 ((gI (sI (sI (sI (sI (sI (sI h 415 k4 ((gI h 415 k4) + 1)) 414 k4 ((gI h 414 k4) + (gI h 399 k39))) 416 k4 0) 415 k4 0) 433 k1 ((gI h 433 k1) + 1)) 417 k55 ((gI h 417 k55) - (gI h 403 k58))) 417 k64) - (gI h 403 k67))) (pc' := 204) i155_203 rfl (x_alE (a := 20) (by decide) w79.1 sh417 (by decide) e65 g66 (by decide)) (x_clE e65 g66 (by decide)) (by rw [(show (SH 417).1 = 20 by rw [sh417])]; rfl) ?_
              have w81 : HW (sI (sI (sI (sI (sI (sI (sI h 415 k4 ((gI h 415 k4) + 1)) 414 k4 ((gI h 414 k4) + (gI h 399 k39))) 416 k4 0) 415 k4 0) 433 k1 ((gI h 433 k1) + 1)) 417 k55 ((gI h 417 k55) - (gI h 403 k58))) 417 k64 ((gI (sI (sI (sI (sI (sI (sI h 415 k4 ((gI h 415 k4) + 1)) 414 k4 ((gI h 414 k4) + (gI h 399 k39))) 416 k4 0) 415 k4 0) 433 k1 ((gI h 433 k1) + 1)) 417 k55 ((gI h 417 k55) - (gI h 403 k58))) 417 k64) - (gI h 403 k67))) := HW_sI w79
              refine e_ld (pc' := 205) i155_204 rfl rfl ?_
              refine e_get (w := .ref 416) (pc' := 208) i155_205 rfl (x_isC (by decide) w81.1 sh397) (x_fvR (by decide +kernel) (w81.2 397 20 416 lk397_20)) ?_
              refine e_ld (pc' := 209) i155_208 rfl rfl ?_
              refine e_cn (pc' := 210) i155_209 rfl ?_
              refine e_as (n := k4) (h' := sI (sI (sI (sI (sI (sI (sI (sI h 415 k4 ((gI h 415 k4) + 1)) 414 k4 ((gI h 414 k4) + (gI h 399 k39))) 416 k4 0) 415 k4 0) 433 k1 ((gI h 433 k1) + 1)) 417 k55 ((gI h 417 k55) - (gI h 403 k58))) 417 k64 ((gI (sI (sI (sI (sI (sI (sI h 415 k4 ((gI h 415 k4) + 1)) 414 k4 ((gI h 414 k4) + (gI h 399 k39))) 416 k4 0) 415 k4 0) 433 k1 ((gI h 433 k1) + 1)) 417 k55 ((gI h 417 k55) - (gI h 403 k58))) 417 k64) - (gI h 403 k67))) 416 k4 1) (pc' := 211) i155_210 rfl (x_alE (a := 22) (by decide) w81.1 sh416 (by decide) e5 g6 (by decide)) (x_clE e5 g6 (by decide)) (by rw [(show (SH 416).1 = 22 by rw [sh416])]; rfl) ?_
              have w83 : HW (sI (sI (sI (sI (sI (sI (sI (sI h 415 k4 ((gI h 415 k4) + 1)) 414 k4 ((gI h 414 k4) + (gI h 399 k39))) 416 k4 0) 415 k4 0) 433 k1 ((gI h 433 k1) + 1)) 417 k55 ((gI h 417 k55) - (gI h 403 k58))) 417 k64 ((gI (sI (sI (sI (sI (sI (sI h 415 k4 ((gI h 415 k4) + 1)) 414 k4 ((gI h 414 k4) + (gI h 399 k39))) 416 k4 0) 415 k4 0) 433 k1 ((gI h 433 k1) + 1)) 417 k55 ((gI h 417 k55) - (gI h 403 k58))) 417 k64) - (gI h 403 k67))) 416 k4 1) := HW_sI w81
              refine e_ld (pc' := 212) i155_211 rfl rfl ?_
              refine e_get (w := .ref 415) (pc' := 215) i155_212 rfl (x_isC (by decide) w83.1 sh397) (x_fvR (by decide +kernel) (w83.2 397 19 415 lk397_19)) ?_
              refine e_ld (pc' := 216) i155_215 rfl rfl ?_
              refine e_cn (pc' := 217) i155_216 rfl ?_
              refine e_as (n := k4) (h' := sI (sI (sI (sI (sI (sI (sI (sI (sI h 415 k4 ((gI h 415 k4) + 1)) 414 k4 ((gI h 414 k4) + (gI h 399 k39))) 416 k4 0) 415 k4 0) 433 k1 ((gI h 433 k1) + 1)) 417 k55 ((gI h 417 k55) - (gI h 403 k58))) 417 k64 ((gI (sI (sI (sI (sI (sI (sI h 415 k4 ((gI h 415 k4) + 1)) 414 k4 ((gI h 414 k4) + (gI h 399 k39))) 416 k4 0) 415 k4 0) 433 k1 ((gI h 433 k1) + 1)) 417 k55 ((gI h 417 k55) - (gI h 403 k58))) 417 k64) - (gI h 403 k67))) 416 k4 1) 415 k4 0) (pc' := 218) i155_217 rfl (x_alE (a := 20) (by decide) w83.1 sh415 (by decide) e5 g6 (by decide)) (x_clE e5 g6 (by decide)) (by rw [(show (SH 415).1 = 20 by rw [sh415])]; rfl) ?_
              have w85 : HW (sI (sI (sI (sI (sI (sI (sI (sI (sI h 415 k4 ((gI h 415 k4) + 1)) 414 k4 ((gI h 414 k4) + (gI h 399 k39))) 416 k4 0) 415 k4 0) 433 k1 ((gI h 433 k1) + 1)) 417 k55 ((gI h 417 k55) - (gI h 403 k58))) 417 k64 ((gI (sI (sI (sI (sI (sI (sI h 415 k4 ((gI h 415 k4) + 1)) 414 k4 ((gI h 414 k4) + (gI h 399 k39))) 416 k4 0) 415 k4 0) 433 k1 ((gI h 433 k1) + 1)) 417 k55 ((gI h 417 k55) - (gI h 403 k58))) 417 k64) - (gI h 403 k67))) 416 k4 1) 415 k4 0) := HW_sI w83
              refine e_rt i155_218 rfl ?_
              exact H
-- FloorTurnModel.offered(II)I
set_option maxHeartbeats 8000000 in
set_option maxRecDepth 100000 in
theorem v156 {L : Nat} {xs : Nat → Int32} {Q : Option Value → Hp → Prop} {h : Hp} {x : Int32} {y : Int32} (hw : HW h) 
  (H : ∃ k1 : Nat, y = nI k1 ∧ k1 < 144 ∧ (((gI h 405 k1) = 6) → (∃ k10 : Nat, ((144 * x) + y) = nI k10 ∧ k10 < 432 ∧ (((gI h 414 k10) ≤ 0) → (Q (some (.int 0)) h)) ∧ (¬ ((gI h 414 k10) ≤ 0) → (∃ k16 : Nat, (gI h 407 k1) = nI k16 ∧ k16 < 8 ∧ Q (some (.int (gI h 400 k16))) h)))) ∧ (¬ ((gI h 405 k1) = 6) → (∃ k6 : Nat, ((144 * x) + y) = nI k6 ∧ k6 < 432 ∧ Q (some (.int (gI h 412 k6))) h))) : ∃ r h', Sp L xs 156 [.ref 397, .int x, .int y] h r h' ∧ Q r h' := by
  refine sp_ex (ls := [some (.ref 397), some (.int x), some (.int y)]) rfl ?_
  refine e_ld (pc' := 1) i156_0 rfl rfl ?_
  refine e_get (w := .ref 405) (pc' := 4) i156_1 rfl (x_isC (by decide) hw.1 sh397) (x_fvR (by decide +kernel) (hw.2 397 8 405 lk397_8)) ?_
  refine e_ld (pc' := 5) i156_4 rfl rfl ?_
  obtain ⟨k1, e2, g3, H⟩ := H
  refine e_al (n := k1) (w := .int (gI h 405 k1)) (pc' := 6) i156_5 rfl (x_alE (a := 20) (by decide) hw.1 sh405 (by decide) e2 g3 (by decide)) (x_clE e2 g3 (by decide)) rfl ?_
  refine e_cn (pc' := 8) i156_6 rfl ?_
  refine e_ic (pc' := 11) i156_8 rfl (fun c4 => ?_) (fun c4 => ?_)
  · have d5 : ¬ ((gI h 405 k1) = 6) := (of_decide_eq_true c4)
    replace H := H.2 d5
    refine e_ld (pc' := 45) i156_44 rfl rfl ?_
    refine e_get (w := .ref 412) (pc' := 48) i156_45 rfl (x_isC (by decide) hw.1 sh397) (x_fvR (by decide +kernel) (hw.2 397 16 412 lk397_16)) ?_
    refine e_cn (pc' := 51) i156_48 rfl ?_
    refine e_ld (pc' := 52) i156_51 rfl rfl ?_
    refine e_ib (z := 144 * x) (pc' := 53) i156_52 rfl rfl ?_
    refine e_ld (pc' := 54) i156_53 rfl rfl ?_
    refine e_ib (z := (144 * x) + y) (pc' := 55) i156_54 rfl rfl ?_
    obtain ⟨k6, e7, g8, H⟩ := H
    refine e_al (n := k6) (w := .int (gI h 412 k6)) (pc' := 56) i156_55 rfl (x_alE (a := 20) (by decide) hw.1 sh412 (by decide) e7 g8 (by decide)) (x_clE e7 g8 (by decide)) rfl ?_
    refine e_rt i156_56 rfl ?_
    exact H
  · have d9 : (gI h 405 k1) = 6 := (Decidable.not_not.mp (of_decide_eq_false c4))
    replace H := H.1 d9
    refine e_ld (pc' := 12) i156_11 rfl rfl ?_
    refine e_get (w := .ref 414) (pc' := 15) i156_12 rfl (x_isC (by decide) hw.1 sh397) (x_fvR (by decide +kernel) (hw.2 397 18 414 lk397_18)) ?_
    refine e_cn (pc' := 18) i156_15 rfl ?_
    refine e_ld (pc' := 19) i156_18 rfl rfl ?_
    refine e_ib (z := 144 * x) (pc' := 20) i156_19 rfl rfl ?_
    refine e_ld (pc' := 21) i156_20 rfl rfl ?_
    refine e_ib (z := (144 * x) + y) (pc' := 22) i156_21 rfl rfl ?_
    obtain ⟨k10, e11, g12, H⟩ := H
    refine e_al (n := k10) (w := .int (gI h 414 k10)) (pc' := 23) i156_22 rfl (x_alE (a := 20) (by decide) hw.1 sh414 (by decide) e11 g12 (by decide)) (x_clE e11 g12 (by decide)) rfl ?_
    refine e_if (pc' := 26) i156_23 rfl (fun c13 => ?_) (fun c13 => ?_)
    · have d14 : (gI h 414 k10) ≤ 0 := (of_decide_eq_true c13)
      replace H := H.1 d14
      refine e_cn (pc' := 41) i156_40 rfl ?_
      refine e_go i156_41 ?_
      refine e_rt i156_56 rfl ?_
      exact H
    · have d15 : ¬ ((gI h 414 k10) ≤ 0) := (of_decide_eq_false c13)
      replace H := H.2 d15
      refine e_ld (pc' := 27) i156_26 rfl rfl ?_
      refine e_get (w := .ref 400) (pc' := 30) i156_27 rfl (x_isC (by decide) hw.1 sh397) (x_fvR (by decide +kernel) (hw.2 397 3 400 lk397_3)) ?_
      refine e_ld (pc' := 31) i156_30 rfl rfl ?_
      refine e_get (w := .ref 407) (pc' := 34) i156_31 rfl (x_isC (by decide) hw.1 sh397) (x_fvR (by decide +kernel) (hw.2 397 10 407 lk397_10)) ?_
      refine e_ld (pc' := 35) i156_34 rfl rfl ?_
      refine e_al (n := k1) (w := .int (gI h 407 k1)) (pc' := 36) i156_35 rfl (x_alE (a := 20) (by decide) hw.1 sh407 (by decide) e2 g3 (by decide)) (x_clE e2 g3 (by decide)) rfl ?_
      obtain ⟨k16, e17, g18, H⟩ := H
      refine e_al (n := k16) (w := .int (gI h 400 k16)) (pc' := 37) i156_36 rfl (x_alE (a := 20) (by decide) hw.1 sh400 (by decide) e17 g18 (by decide)) (x_clE e17 g18 (by decide)) rfl ?_
      refine e_go i156_37 ?_
      refine e_rt i156_56 rfl ?_
      exact H
-- FloorTurnModel.takes(IIIII)Z
set_option maxHeartbeats 8000000 in
set_option maxRecDepth 100000 in
theorem v157 {L : Nat} {xs : Nat → Int32} {Q : Option Value → Hp → Prop} {h : Hp} {x : Int32} {y : Int32} {z : Int32} {u : Int32} {v : Int32} (hw : HW h) 
  (H : ∃ k1 : Nat, y = nI k1 ∧ k1 < 144 ∧ (((gI h 405 k1) = 1) → (∃ k5 : Nat, ((144 * x) + y) = nI k5 ∧ k5 < 432 ∧ (((gI h 412 k5) = 0) → (Q (some (.int (b2i (if (gI h 406 k1) = u then (false) else (true))))) h)) ∧ (¬ ((gI h 412 k5) = 0) → (Q (some (.int 0)) h)))) ∧ (¬ ((gI h 405 k1) = 1) → ((((gI h 405 k1) = 2) → (∃ k16 : Nat, ((144 * x) + y) = nI k16 ∧ k16 < 432 ∧ (((gI h 412 k16) = 0) → (Q (some (.int (b2i (if (gI h 406 k1) = u then (false) else (true))))) h)) ∧ (¬ ((gI h 412 k16) = 0) → (Q (some (.int 0)) h)))) ∧ (¬ ((gI h 405 k1) = 2) → ((((gI h 405 k1) = 3) → (∃ k27 : Nat, ((144 * x) + y) = nI k27 ∧ k27 < 432 ∧ (((gI h 412 k27) = 0) → (∃ k33 : Nat, v = nI k33 ∧ k33 < 144 ∧ (((gI h 405 k33) = 2) → (Q (some (.int (b2i (if (gI h 406 k33) = (gI h 406 k1) then (true) else (false))))) h)) ∧ (¬ ((gI h 405 k33) = 2) → (Q (some (.int 0)) h)))) ∧ (¬ ((gI h 412 k27) = 0) → (Q (some (.int 0)) h)))) ∧ (¬ ((gI h 405 k1) = 3) → ((((gI h 405 k1) = 4) → (∃ k44 : Nat, ((144 * x) + y) = nI k44 ∧ k44 < 432 ∧ (((gI h 412 k44) = 0) → (Q (some (.int (b2i (if (((gI h 406 k1) >>> ((u : Int32) &&& 31)) &&& 1) = 0 then (true) else (false))))) h)) ∧ (¬ ((gI h 412 k44) = 0) → (Q (some (.int 0)) h)))) ∧ (¬ ((gI h 405 k1) = 4) → ((((gI h 405 k1) = 5) → (Q (some (.int 0)) h)) ∧ (¬ ((gI h 405 k1) = 5) → ((((gI h 405 k1) = 6) → ((((gI h 406 k1) = u) → (Q (some (.int 0)) h)) ∧ (¬ ((gI h 406 k1) = u) → (∃ (r60 : Int32), Sp L xs 158 [.ref 397, .int ((144 * x) + y), .int (gI h 407 k1), .int z] h (some (.int r60)) h ∧ Q (some (.int (b2i (if r60 = 0 then (false) else (true))))) h)))) ∧ (¬ ((gI h 405 k1) = 6) → ((((gI h 405 k1) = 7) → (Q (some (.int 1)) h)) ∧ (¬ ((gI h 405 k1) = 7) → (Q (some (.int 0)) h))))))))))))))) : ∃ r h', Sp L xs 157 [.ref 397, .int x, .int y, .int z, .int u, .int v] h r h' ∧ Q r h' := by
  refine sp_ex (ls := [some (.ref 397), some (.int x), some (.int y), some (.int z), some (.int u), some (.int v), none]) rfl ?_
  refine e_cn (pc' := 3) i157_0 rfl ?_
  refine e_ld (pc' := 4) i157_3 rfl rfl ?_
  refine e_ib (z := 144 * x) (pc' := 5) i157_4 rfl rfl ?_
  refine e_ld (pc' := 6) i157_5 rfl rfl ?_
  refine e_ib (z := (144 * x) + y) (pc' := 7) i157_6 rfl rfl ?_
  refine e_st (ls' := [some (.ref 397), some (.int x), some (.int y), some (.int z), some (.int u), some (.int v), some (.int ((144 * x) + y))]) (pc' := 9) i157_7 rfl rfl rfl ?_
  refine e_ld (pc' := 10) i157_9 rfl rfl ?_
  refine e_get (w := .ref 405) (pc' := 13) i157_10 rfl (x_isC (by decide) hw.1 sh397) (x_fvR (by decide +kernel) (hw.2 397 8 405 lk397_8)) ?_
  refine e_ld (pc' := 14) i157_13 rfl rfl ?_
  obtain ⟨k1, e2, g3, H⟩ := H
  refine e_al (n := k1) (w := .int (gI h 405 k1)) (pc' := 15) i157_14 rfl (x_alE (a := 20) (by decide) hw.1 sh405 (by decide) e2 g3 (by decide)) (x_clE e2 g3 (by decide)) rfl ?_
  by_cases c4 : (gI h 405 k1) = 1
  · replace H := H.1 c4
    refine e_tab (pc' := 56) i157_15 (by rw [c4]; rfl) ?_
    refine e_ld (pc' := 57) i157_56 rfl rfl ?_
    refine e_get (w := .ref 412) (pc' := 60) i157_57 rfl (x_isC (by decide) hw.1 sh397) (x_fvR (by decide +kernel) (hw.2 397 16 412 lk397_16)) ?_
    refine e_ld (pc' := 62) i157_60 rfl rfl ?_
    obtain ⟨k5, e6, g7, H⟩ := H
    refine e_al (n := k5) (w := .int (gI h 412 k5)) (pc' := 63) i157_62 rfl (x_alE (a := 20) (by decide) hw.1 sh412 (by decide) e6 g7 (by decide)) (x_clE e6 g7 (by decide)) rfl ?_
    refine e_if (pc' := 66) i157_63 rfl (fun c8 => ?_) (fun c8 => ?_)
    · have d9 : ¬ ((gI h 412 k5) = 0) := (of_decide_eq_true c8)
      replace H := H.2 d9
      refine e_cn (pc' := 82) i157_81 rfl ?_
      refine e_rt i157_82 rfl ?_
      exact H
    · have d10 : (gI h 412 k5) = 0 := (Decidable.not_not.mp (of_decide_eq_false c8))
      replace H := H.1 d10
      refine e_ld (pc' := 67) i157_66 rfl rfl ?_
      refine e_get (w := .ref 406) (pc' := 70) i157_67 rfl (x_isC (by decide) hw.1 sh397) (x_fvR (by decide +kernel) (hw.2 397 9 406 lk397_9)) ?_
      refine e_ld (pc' := 71) i157_70 rfl rfl ?_
      refine e_al (n := k1) (w := .int (gI h 406 k1)) (pc' := 72) i157_71 rfl (x_alE (a := 20) (by decide) hw.1 sh406 (by decide) e2 g3 (by decide)) (x_clE e2 g3 (by decide)) rfl ?_
      refine e_ld (pc' := 74) i157_72 rfl rfl ?_
      refine e_reg (pc' := 82) (ls' := [some (.ref 397), some (.int x), some (.int y), some (.int z), some (.int u), some (.int v), some (.int ((144 * x) + y))]) (st' := [.int (b2i (if (gI h 406 k1) = u then (false) else (true)))]) (fun kj11 => ?_) ?_
      · skip
        refine e_ic (pc' := 77) i157_74 rfl (fun c12 => ?_) (fun c12 => ?_)
        · have d13 : (gI h 406 k1) = u := (of_decide_eq_true c12)
          refine e_cn (pc' := 82) i157_81 rfl ?_
          exact (by simp only [if_pos d13] at kj11 ⊢; exact kj11)
        · have d14 : ¬ ((gI h 406 k1) = u) := (of_decide_eq_false c12)
          refine e_cn (pc' := 78) i157_77 rfl ?_
          refine e_go i157_78 ?_
          exact (by simp only [if_neg d14] at kj11 ⊢; exact kj11)
      refine e_rt (r := some (.int (b2i (if (gI h 406 k1) = u then (false) else (true))))) i157_82 (by simp only [x_rt, show MR 157 = some .boolean by decide +kernel, b2i_01, cond_true]) ?_
      exact H
  · replace H := H.2 c4
    by_cases c15 : (gI h 405 k1) = 2
    · replace H := H.1 c15
      refine e_tab (pc' := 56) i157_15 (by rw [c15]; rfl) ?_
      refine e_ld (pc' := 57) i157_56 rfl rfl ?_
      refine e_get (w := .ref 412) (pc' := 60) i157_57 rfl (x_isC (by decide) hw.1 sh397) (x_fvR (by decide +kernel) (hw.2 397 16 412 lk397_16)) ?_
      refine e_ld (pc' := 62) i157_60 rfl rfl ?_
      obtain ⟨k16, e17, g18, H⟩ := H
      refine e_al (n := k16) (w := .int (gI h 412 k16)) (pc' := 63) i157_62 rfl (x_alE (a := 20) (by decide) hw.1 sh412 (by decide) e17 g18 (by decide)) (x_clE e17 g18 (by decide)) rfl ?_
      refine e_if (pc' := 66) i157_63 rfl (fun c19 => ?_) (fun c19 => ?_)
      · have d20 : ¬ ((gI h 412 k16) = 0) := (of_decide_eq_true c19)
        replace H := H.2 d20
        refine e_cn (pc' := 82) i157_81 rfl ?_
        refine e_rt i157_82 rfl ?_
        exact H
      · have d21 : (gI h 412 k16) = 0 := (Decidable.not_not.mp (of_decide_eq_false c19))
        replace H := H.1 d21
        refine e_ld (pc' := 67) i157_66 rfl rfl ?_
        refine e_get (w := .ref 406) (pc' := 70) i157_67 rfl (x_isC (by decide) hw.1 sh397) (x_fvR (by decide +kernel) (hw.2 397 9 406 lk397_9)) ?_
        refine e_ld (pc' := 71) i157_70 rfl rfl ?_
        refine e_al (n := k1) (w := .int (gI h 406 k1)) (pc' := 72) i157_71 rfl (x_alE (a := 20) (by decide) hw.1 sh406 (by decide) e2 g3 (by decide)) (x_clE e2 g3 (by decide)) rfl ?_
        refine e_ld (pc' := 74) i157_72 rfl rfl ?_
        refine e_reg (pc' := 82) (ls' := [some (.ref 397), some (.int x), some (.int y), some (.int z), some (.int u), some (.int v), some (.int ((144 * x) + y))]) (st' := [.int (b2i (if (gI h 406 k1) = u then (false) else (true)))]) (fun kj22 => ?_) ?_
        · skip
          refine e_ic (pc' := 77) i157_74 rfl (fun c23 => ?_) (fun c23 => ?_)
          · have d24 : (gI h 406 k1) = u := (of_decide_eq_true c23)
            refine e_cn (pc' := 82) i157_81 rfl ?_
            exact (by simp only [if_pos d24] at kj22 ⊢; exact kj22)
          · have d25 : ¬ ((gI h 406 k1) = u) := (of_decide_eq_false c23)
            refine e_cn (pc' := 78) i157_77 rfl ?_
            refine e_go i157_78 ?_
            exact (by simp only [if_neg d25] at kj22 ⊢; exact kj22)
        refine e_rt (r := some (.int (b2i (if (gI h 406 k1) = u then (false) else (true))))) i157_82 (by simp only [x_rt, show MR 157 = some .boolean by decide +kernel, b2i_01, cond_true]) ?_
        exact H
    · replace H := H.2 c15
      by_cases c26 : (gI h 405 k1) = 3
      · replace H := H.1 c26
        refine e_tab (pc' := 83) i157_15 (by rw [c26]; rfl) ?_
        refine e_ld (pc' := 84) i157_83 rfl rfl ?_
        refine e_get (w := .ref 412) (pc' := 87) i157_84 rfl (x_isC (by decide) hw.1 sh397) (x_fvR (by decide +kernel) (hw.2 397 16 412 lk397_16)) ?_
        refine e_ld (pc' := 89) i157_87 rfl rfl ?_
        obtain ⟨k27, e28, g29, H⟩ := H
        refine e_al (n := k27) (w := .int (gI h 412 k27)) (pc' := 90) i157_89 rfl (x_alE (a := 20) (by decide) hw.1 sh412 (by decide) e28 g29 (by decide)) (x_clE e28 g29 (by decide)) rfl ?_
        refine e_if (pc' := 93) i157_90 rfl (fun c30 => ?_) (fun c30 => ?_)
        · have d31 : ¬ ((gI h 412 k27) = 0) := (of_decide_eq_true c30)
          replace H := H.2 d31
          refine e_cn (pc' := 125) i157_124 rfl ?_
          refine e_rt i157_125 rfl ?_
          exact H
        · have d32 : (gI h 412 k27) = 0 := (Decidable.not_not.mp (of_decide_eq_false c30))
          replace H := H.1 d32
          refine e_ld (pc' := 94) i157_93 rfl rfl ?_
          refine e_get (w := .ref 405) (pc' := 97) i157_94 rfl (x_isC (by decide) hw.1 sh397) (x_fvR (by decide +kernel) (hw.2 397 8 405 lk397_8)) ?_
          refine e_ld (pc' := 99) i157_97 rfl rfl ?_
          obtain ⟨k33, e34, g35, H⟩ := H
          refine e_al (n := k33) (w := .int (gI h 405 k33)) (pc' := 100) i157_99 rfl (x_alE (a := 20) (by decide) hw.1 sh405 (by decide) e34 g35 (by decide)) (x_clE e34 g35 (by decide)) rfl ?_
          refine e_cn (pc' := 101) i157_100 rfl ?_
          refine e_ic (pc' := 104) i157_101 rfl (fun c36 => ?_) (fun c36 => ?_)
          · have d37 : ¬ ((gI h 405 k33) = 2) := (of_decide_eq_true c36)
            replace H := H.2 d37
            refine e_cn (pc' := 125) i157_124 rfl ?_
            refine e_rt i157_125 rfl ?_
            exact H
          · have d38 : (gI h 405 k33) = 2 := (Decidable.not_not.mp (of_decide_eq_false c36))
            replace H := H.1 d38
            refine e_ld (pc' := 105) i157_104 rfl rfl ?_
            refine e_get (w := .ref 406) (pc' := 108) i157_105 rfl (x_isC (by decide) hw.1 sh397) (x_fvR (by decide +kernel) (hw.2 397 9 406 lk397_9)) ?_
            refine e_ld (pc' := 110) i157_108 rfl rfl ?_
            refine e_al (n := k33) (w := .int (gI h 406 k33)) (pc' := 111) i157_110 rfl (x_alE (a := 20) (by decide) hw.1 sh406 (by decide) e34 g35 (by decide)) (x_clE e34 g35 (by decide)) rfl ?_
            refine e_ld (pc' := 112) i157_111 rfl rfl ?_
            refine e_get (w := .ref 406) (pc' := 115) i157_112 rfl (x_isC (by decide) hw.1 sh397) (x_fvR (by decide +kernel) (hw.2 397 9 406 lk397_9)) ?_
            refine e_ld (pc' := 116) i157_115 rfl rfl ?_
            refine e_al (n := k1) (w := .int (gI h 406 k1)) (pc' := 117) i157_116 rfl (x_alE (a := 20) (by decide) hw.1 sh406 (by decide) e2 g3 (by decide)) (x_clE e2 g3 (by decide)) rfl ?_
            refine e_reg (pc' := 125) (ls' := [some (.ref 397), some (.int x), some (.int y), some (.int z), some (.int u), some (.int v), some (.int ((144 * x) + y))]) (st' := [.int (b2i (if (gI h 406 k33) = (gI h 406 k1) then (true) else (false)))]) (fun kj39 => ?_) ?_
            · skip
              refine e_ic (pc' := 120) i157_117 rfl (fun c40 => ?_) (fun c40 => ?_)
              · have d41 : ¬ ((gI h 406 k33) = (gI h 406 k1)) := (of_decide_eq_true c40)
                refine e_cn (pc' := 125) i157_124 rfl ?_
                exact (by simp only [if_neg d41] at kj39 ⊢; exact kj39)
              · have d42 : (gI h 406 k33) = (gI h 406 k1) := (Decidable.not_not.mp (of_decide_eq_false c40))
                refine e_cn (pc' := 121) i157_120 rfl ?_
                refine e_go i157_121 ?_
                exact (by simp only [if_pos d42] at kj39 ⊢; exact kj39)
            refine e_rt (r := some (.int (b2i (if (gI h 406 k33) = (gI h 406 k1) then (true) else (false))))) i157_125 (by simp only [x_rt, show MR 157 = some .boolean by decide +kernel, b2i_01, cond_true]) ?_
            exact H
      · replace H := H.2 c26
        by_cases c43 : (gI h 405 k1) = 4
        · replace H := H.1 c43
          refine e_tab (pc' := 126) i157_15 (by rw [c43]; rfl) ?_
          refine e_ld (pc' := 127) i157_126 rfl rfl ?_
          refine e_get (w := .ref 412) (pc' := 130) i157_127 rfl (x_isC (by decide) hw.1 sh397) (x_fvR (by decide +kernel) (hw.2 397 16 412 lk397_16)) ?_
          refine e_ld (pc' := 132) i157_130 rfl rfl ?_
          obtain ⟨k44, e45, g46, H⟩ := H
          refine e_al (n := k44) (w := .int (gI h 412 k44)) (pc' := 133) i157_132 rfl (x_alE (a := 20) (by decide) hw.1 sh412 (by decide) e45 g46 (by decide)) (x_clE e45 g46 (by decide)) rfl ?_
          refine e_if (pc' := 136) i157_133 rfl (fun c47 => ?_) (fun c47 => ?_)
          · have d48 : ¬ ((gI h 412 k44) = 0) := (of_decide_eq_true c47)
            replace H := H.2 d48
            refine e_cn (pc' := 155) i157_154 rfl ?_
            refine e_rt i157_155 rfl ?_
            exact H
          · have d49 : (gI h 412 k44) = 0 := (Decidable.not_not.mp (of_decide_eq_false c47))
            replace H := H.1 d49
            refine e_ld (pc' := 137) i157_136 rfl rfl ?_
            refine e_get (w := .ref 406) (pc' := 140) i157_137 rfl (x_isC (by decide) hw.1 sh397) (x_fvR (by decide +kernel) (hw.2 397 9 406 lk397_9)) ?_
            refine e_ld (pc' := 141) i157_140 rfl rfl ?_
            refine e_al (n := k1) (w := .int (gI h 406 k1)) (pc' := 142) i157_141 rfl (x_alE (a := 20) (by decide) hw.1 sh406 (by decide) e2 g3 (by decide)) (x_clE e2 g3 (by decide)) rfl ?_
            refine e_ld (pc' := 144) i157_142 rfl rfl ?_
            refine e_ib (z := (gI h 406 k1) >>> ((u : Int32) &&& 31)) (pc' := 145) i157_144 rfl rfl ?_
            refine e_cn (pc' := 146) i157_145 rfl ?_
            refine e_ib (z := ((gI h 406 k1) >>> ((u : Int32) &&& 31)) &&& 1) (pc' := 147) i157_146 rfl rfl ?_
            refine e_reg (pc' := 155) (ls' := [some (.ref 397), some (.int x), some (.int y), some (.int z), some (.int u), some (.int v), some (.int ((144 * x) + y))]) (st' := [.int (b2i (if (((gI h 406 k1) >>> ((u : Int32) &&& 31)) &&& 1) = 0 then (true) else (false)))]) (fun kj50 => ?_) ?_
            · skip
              refine e_if (pc' := 150) i157_147 rfl (fun c51 => ?_) (fun c51 => ?_)
              · have d52 : ¬ ((((gI h 406 k1) >>> ((u : Int32) &&& 31)) &&& 1) = 0) := (of_decide_eq_true c51)
                refine e_cn (pc' := 155) i157_154 rfl ?_
                exact (by simp only [if_neg d52] at kj50 ⊢; exact kj50)
              · have d53 : (((gI h 406 k1) >>> ((u : Int32) &&& 31)) &&& 1) = 0 := (Decidable.not_not.mp (of_decide_eq_false c51))
                refine e_cn (pc' := 151) i157_150 rfl ?_
                refine e_go i157_151 ?_
                exact (by simp only [if_pos d53] at kj50 ⊢; exact kj50)
            refine e_rt (r := some (.int (b2i (if (((gI h 406 k1) >>> ((u : Int32) &&& 31)) &&& 1) = 0 then (true) else (false))))) i157_155 (by simp only [x_rt, show MR 157 = some .boolean by decide +kernel, b2i_01, cond_true]) ?_
            exact H
        · replace H := H.2 c43
          by_cases c54 : (gI h 405 k1) = 5
          · replace H := H.1 c54
            refine e_tab (pc' := 191) i157_15 (by rw [c54]; rfl) ?_
            refine e_cn (pc' := 192) i157_191 rfl ?_
            refine e_rt i157_192 rfl ?_
            exact H
          · replace H := H.2 c54
            by_cases c55 : (gI h 405 k1) = 6
            · replace H := H.1 c55
              refine e_tab (pc' := 156) i157_15 (by rw [c55]; rfl) ?_
              refine e_ld (pc' := 157) i157_156 rfl rfl ?_
              refine e_get (w := .ref 406) (pc' := 160) i157_157 rfl (x_isC (by decide) hw.1 sh397) (x_fvR (by decide +kernel) (hw.2 397 9 406 lk397_9)) ?_
              refine e_ld (pc' := 161) i157_160 rfl rfl ?_
              refine e_al (n := k1) (w := .int (gI h 406 k1)) (pc' := 162) i157_161 rfl (x_alE (a := 20) (by decide) hw.1 sh406 (by decide) e2 g3 (by decide)) (x_clE e2 g3 (by decide)) rfl ?_
              refine e_ld (pc' := 164) i157_162 rfl rfl ?_
              refine e_ic (pc' := 167) i157_164 rfl (fun c56 => ?_) (fun c56 => ?_)
              · have d57 : (gI h 406 k1) = u := (of_decide_eq_true c56)
                replace H := H.1 d57
                refine e_cn (pc' := 188) i157_187 rfl ?_
                refine e_rt i157_188 rfl ?_
                exact H
              · have d58 : ¬ ((gI h 406 k1) = u) := (of_decide_eq_false c56)
                replace H := H.2 d58
                refine e_ld (pc' := 168) i157_167 rfl rfl ?_
                refine e_ld (pc' := 170) i157_168 rfl rfl ?_
                refine e_ld (pc' := 171) i157_170 rfl rfl ?_
                refine e_get (w := .ref 407) (pc' := 174) i157_171 rfl (x_isC (by decide) hw.1 sh397) (x_fvR (by decide +kernel) (hw.2 397 10 407 lk397_10)) ?_
                refine e_ld (pc' := 175) i157_174 rfl rfl ?_
                refine e_al (n := k1) (w := .int (gI h 407 k1)) (pc' := 176) i157_175 rfl (x_alE (a := 20) (by decide) hw.1 sh407 (by decide) e2 g3 (by decide)) (x_clE e2 g3 (by decide)) rfl ?_
                refine e_ld (pc' := 177) i157_176 rfl rfl ?_
                obtain ⟨r60, s59, H⟩ := H
                refine e_cI (w := .int r60) (As := [.ref 397, .int ((144 * x) + y), .int (gI h 407 k1), .int z]) (rest := []) (pc' := 180) i157_177 rfl rfl rfl rfl (by show (Nat.beq (x_kd 158) 0 && x_is 397 _ (MC 158) 0) = true; rw [show x_kd 158 = 0 by decide +kernel, show MC 158 = 11 by decide +kernel, (x_isC (by decide) hw.1 sh397)]; rfl) s59 ?_
                refine e_reg (pc' := 188) (ls' := [some (.ref 397), some (.int x), some (.int y), some (.int z), some (.int u), some (.int v), some (.int ((144 * x) + y))]) (st' := [.int (b2i (if r60 = 0 then (false) else (true)))]) (fun kj61 => ?_) ?_
                · skip
                  refine e_if (pc' := 183) i157_180 rfl (fun c62 => ?_) (fun c62 => ?_)
                  · have d63 : r60 = 0 := (of_decide_eq_true c62)
                    refine e_cn (pc' := 188) i157_187 rfl ?_
                    exact (by simp only [if_pos d63] at kj61 ⊢; exact kj61)
                  · have d64 : ¬ (r60 = 0) := (of_decide_eq_false c62)
                    refine e_cn (pc' := 184) i157_183 rfl ?_
                    refine e_go i157_184 ?_
                    exact (by simp only [if_neg d64] at kj61 ⊢; exact kj61)
                refine e_rt (r := some (.int (b2i (if r60 = 0 then (false) else (true))))) i157_188 (by simp only [x_rt, show MR 157 = some .boolean by decide +kernel, b2i_01, cond_true]) ?_
                exact H
            · replace H := H.2 c55
              by_cases c65 : (gI h 405 k1) = 7
              · replace H := H.1 c65
                refine e_tab (pc' := 189) i157_15 (by rw [c65]; rfl) ?_
                refine e_cn (pc' := 190) i157_189 rfl ?_
                refine e_rt i157_190 rfl ?_
                exact H
              · replace H := H.2 c65
                refine e_tab (pc' := 191) i157_15 (x_tgt_out (by decide) (fun k (hk : k < 7) => by rcases (show k = 0 ∨ k = 1 ∨ k = 2 ∨ k = 3 ∨ k = 4 ∨ k = 5 ∨ k = 6 by omega) with rfl | rfl | rfl | rfl | rfl | rfl | rfl <;> assumption)) ?_
                refine e_cn (pc' := 192) i157_191 rfl ?_
                refine e_rt i157_192 rfl ?_
                exact H
-- FloorTurnModel.hasRoom(III)Z
set_option maxHeartbeats 8000000 in
set_option maxRecDepth 100000 in
theorem v158 {L : Nat} {xs : Nat → Int32} {Q : Option Value → Hp → Prop} {h : Hp} {x : Int32} {y : Int32} {z : Int32} (hw : HW h) 
  (H : ∃ k1 : Nat, (2 * y) = nI k1 ∧ k1 < 16 ∧ (((gI h 402 k1) = z) → (∃ k20 : Nat, (2 * x) = nI k20 ∧ k20 < 864 ∧ Q (some (.int (b2i (if (2 * (gI h 403 k1)) ≤ (gI h 417 k20) then (false) else (true))))) h)) ∧ (¬ ((gI h 402 k1) = z) → (∃ k6 : Nat, ((2 * y) + 1) = nI k6 ∧ k6 < 16 ∧ (((gI h 402 k6) = z) → (∃ k12 : Nat, ((2 * x) + 1) = nI k12 ∧ k12 < 864 ∧ Q (some (.int (b2i (if (2 * (gI h 403 k6)) ≤ (gI h 417 k12) then (false) else (true))))) h)) ∧ (¬ ((gI h 402 k6) = z) → (Q (some (.int 0)) h))))) : ∃ r h', Sp L xs 158 [.ref 397, .int x, .int y, .int z] h r h' ∧ Q r h' := by
  refine sp_ex (ls := [some (.ref 397), some (.int x), some (.int y), some (.int z)]) rfl ?_
  refine e_ld (pc' := 1) i158_0 rfl rfl ?_
  refine e_get (w := .ref 402) (pc' := 4) i158_1 rfl (x_isC (by decide) hw.1 sh397) (x_fvR (by decide +kernel) (hw.2 397 5 402 lk397_5)) ?_
  refine e_cn (pc' := 5) i158_4 rfl ?_
  refine e_ld (pc' := 6) i158_5 rfl rfl ?_
  refine e_ib (z := 2 * y) (pc' := 7) i158_6 rfl rfl ?_
  obtain ⟨k1, e2, g3, H⟩ := H
  refine e_al (n := k1) (w := .int (gI h 402 k1)) (pc' := 8) i158_7 rfl (x_alE (a := 20) (by decide) hw.1 sh402 (by decide) e2 g3 (by decide)) (x_clE e2 g3 (by decide)) rfl ?_
  refine e_ld (pc' := 9) i158_8 rfl rfl ?_
  refine e_ic (pc' := 12) i158_9 rfl (fun c4 => ?_) (fun c4 => ?_)
  · have d5 : ¬ ((gI h 402 k1) = z) := (of_decide_eq_true c4)
    replace H := H.2 d5
    refine e_ld (pc' := 42) i158_41 rfl rfl ?_
    refine e_get (w := .ref 402) (pc' := 45) i158_42 rfl (x_isC (by decide) hw.1 sh397) (x_fvR (by decide +kernel) (hw.2 397 5 402 lk397_5)) ?_
    refine e_cn (pc' := 46) i158_45 rfl ?_
    refine e_ld (pc' := 47) i158_46 rfl rfl ?_
    refine e_ib (z := 2 * y) (pc' := 48) i158_47 rfl rfl ?_
    refine e_cn (pc' := 49) i158_48 rfl ?_
    refine e_ib (z := (2 * y) + 1) (pc' := 50) i158_49 rfl rfl ?_
    obtain ⟨k6, e7, g8, H⟩ := H
    refine e_al (n := k6) (w := .int (gI h 402 k6)) (pc' := 51) i158_50 rfl (x_alE (a := 20) (by decide) hw.1 sh402 (by decide) e7 g8 (by decide)) (x_clE e7 g8 (by decide)) rfl ?_
    refine e_ld (pc' := 52) i158_51 rfl rfl ?_
    refine e_ic (pc' := 55) i158_52 rfl (fun c9 => ?_) (fun c9 => ?_)
    · have d10 : ¬ ((gI h 402 k6) = z) := (of_decide_eq_true c9)
      replace H := H.2 d10
      refine e_cn (pc' := 85) i158_84 rfl ?_
      refine e_rt i158_85 rfl ?_
      exact H
    · have d11 : (gI h 402 k6) = z := (Decidable.not_not.mp (of_decide_eq_false c9))
      replace H := H.1 d11
      refine e_ld (pc' := 56) i158_55 rfl rfl ?_
      refine e_get (w := .ref 417) (pc' := 59) i158_56 rfl (x_isC (by decide) hw.1 sh397) (x_fvR (by decide +kernel) (hw.2 397 21 417 lk397_21)) ?_
      refine e_cn (pc' := 60) i158_59 rfl ?_
      refine e_ld (pc' := 61) i158_60 rfl rfl ?_
      refine e_ib (z := 2 * x) (pc' := 62) i158_61 rfl rfl ?_
      refine e_cn (pc' := 63) i158_62 rfl ?_
      refine e_ib (z := (2 * x) + 1) (pc' := 64) i158_63 rfl rfl ?_
      obtain ⟨k12, e13, g14, H⟩ := H
      refine e_al (n := k12) (w := .int (gI h 417 k12)) (pc' := 65) i158_64 rfl (x_alE (a := 20) (by decide) hw.1 sh417 (by decide) e13 g14 (by decide)) (x_clE e13 g14 (by decide)) rfl ?_
      refine e_cn (pc' := 66) i158_65 rfl ?_
      refine e_ld (pc' := 67) i158_66 rfl rfl ?_
      refine e_get (w := .ref 403) (pc' := 70) i158_67 rfl (x_isC (by decide) hw.1 sh397) (x_fvR (by decide +kernel) (hw.2 397 6 403 lk397_6)) ?_
      refine e_cn (pc' := 71) i158_70 rfl ?_
      refine e_ld (pc' := 72) i158_71 rfl rfl ?_
      refine e_ib (z := 2 * y) (pc' := 73) i158_72 rfl rfl ?_
      refine e_cn (pc' := 74) i158_73 rfl ?_
      refine e_ib (z := (2 * y) + 1) (pc' := 75) i158_74 rfl rfl ?_
      refine e_al (n := k6) (w := .int (gI h 403 k6)) (pc' := 76) i158_75 rfl (x_alE (a := 20) (by decide) hw.1 sh403 (by decide) e7 g8 (by decide)) (x_clE e7 g8 (by decide)) rfl ?_
      refine e_ib (z := 2 * (gI h 403 k6)) (pc' := 77) i158_76 rfl rfl ?_
      refine e_reg (pc' := 85) (ls' := [some (.ref 397), some (.int x), some (.int y), some (.int z)]) (st' := [.int (b2i (if (2 * (gI h 403 k6)) ≤ (gI h 417 k12) then (false) else (true)))]) (fun kj15 => ?_) ?_
      · skip
        refine e_ic (pc' := 80) i158_77 rfl (fun c16 => ?_) (fun c16 => ?_)
        · have d17 : (2 * (gI h 403 k6)) ≤ (gI h 417 k12) := (of_decide_eq_true c16)
          refine e_cn (pc' := 85) i158_84 rfl ?_
          exact (by simp only [if_pos d17] at kj15 ⊢; exact kj15)
        · have d18 : ¬ ((2 * (gI h 403 k6)) ≤ (gI h 417 k12)) := (of_decide_eq_false c16)
          refine e_cn (pc' := 81) i158_80 rfl ?_
          refine e_go i158_81 ?_
          exact (by simp only [if_neg d18] at kj15 ⊢; exact kj15)
      refine e_rt (r := some (.int (b2i (if (2 * (gI h 403 k6)) ≤ (gI h 417 k12) then (false) else (true))))) i158_85 (by simp only [x_rt, show MR 158 = some .boolean by decide +kernel, b2i_01, cond_true]) ?_
      exact H
  · have d19 : (gI h 402 k1) = z := (Decidable.not_not.mp (of_decide_eq_false c4))
    replace H := H.1 d19
    refine e_ld (pc' := 13) i158_12 rfl rfl ?_
    refine e_get (w := .ref 417) (pc' := 16) i158_13 rfl (x_isC (by decide) hw.1 sh397) (x_fvR (by decide +kernel) (hw.2 397 21 417 lk397_21)) ?_
    refine e_cn (pc' := 17) i158_16 rfl ?_
    refine e_ld (pc' := 18) i158_17 rfl rfl ?_
    refine e_ib (z := 2 * x) (pc' := 19) i158_18 rfl rfl ?_
    obtain ⟨k20, e21, g22, H⟩ := H
    refine e_al (n := k20) (w := .int (gI h 417 k20)) (pc' := 20) i158_19 rfl (x_alE (a := 20) (by decide) hw.1 sh417 (by decide) e21 g22 (by decide)) (x_clE e21 g22 (by decide)) rfl ?_
    refine e_cn (pc' := 21) i158_20 rfl ?_
    refine e_ld (pc' := 22) i158_21 rfl rfl ?_
    refine e_get (w := .ref 403) (pc' := 25) i158_22 rfl (x_isC (by decide) hw.1 sh397) (x_fvR (by decide +kernel) (hw.2 397 6 403 lk397_6)) ?_
    refine e_cn (pc' := 26) i158_25 rfl ?_
    refine e_ld (pc' := 27) i158_26 rfl rfl ?_
    refine e_ib (z := 2 * y) (pc' := 28) i158_27 rfl rfl ?_
    refine e_al (n := k1) (w := .int (gI h 403 k1)) (pc' := 29) i158_28 rfl (x_alE (a := 20) (by decide) hw.1 sh403 (by decide) e2 g3 (by decide)) (x_clE e2 g3 (by decide)) rfl ?_
    refine e_ib (z := 2 * (gI h 403 k1)) (pc' := 30) i158_29 rfl rfl ?_
    refine e_reg (pc' := 85) (ls' := [some (.ref 397), some (.int x), some (.int y), some (.int z)]) (st' := [.int (b2i (if (2 * (gI h 403 k1)) ≤ (gI h 417 k20) then (false) else (true)))]) (fun kj23 => ?_) ?_
    · skip
      refine e_ic (pc' := 33) i158_30 rfl (fun c24 => ?_) (fun c24 => ?_)
      · have d25 : (2 * (gI h 403 k1)) ≤ (gI h 417 k20) := (of_decide_eq_true c24)
        refine e_cn (pc' := 38) i158_37 rfl ?_
        refine e_go i158_38 ?_
        exact (by simp only [if_pos d25] at kj23 ⊢; exact kj23)
      · have d26 : ¬ ((2 * (gI h 403 k1)) ≤ (gI h 417 k20)) := (of_decide_eq_false c24)
        refine e_cn (pc' := 34) i158_33 rfl ?_
        refine e_go i158_34 ?_
        exact (by simp only [if_neg d26] at kj23 ⊢; exact kj23)
    refine e_rt (r := some (.int (b2i (if (2 * (gI h 403 k1)) ≤ (gI h 417 k20) then (false) else (true))))) i158_85 (by simp only [x_rt, show MR 158 = some .boolean by decide +kernel, b2i_01, cond_true]) ?_
    exact H
-- FloorTurnModel.offers(IIIII)V
set_option maxHeartbeats 8000000 in
set_option maxRecDepth 100000 in
theorem v159 {L : Nat} {xs : Nat → Int32} {Q : Option Value → Hp → Prop} {h : Hp} {x : Int32} {y : Int32} {z : Int32} {u : Int32} {v : Int32} (hw : HW h) 
  (H : ∃ k1 : Nat, z = nI k1 ∧ k1 < 144 ∧ (((gI h 427 k1) = (-1)) → (Q none (sI (sI (sI h 427 k1 y) 428 k1 v) 429 k1 u))) ∧ (¬ ((gI h 427 k1) = (-1)) → ((((gI h 428 k1) ≤ v) → (Q none h)) ∧ (¬ ((gI h 428 k1) ≤ v) → (Q none (sI (sI (sI h 427 k1 y) 428 k1 v) 429 k1 u)))))) : ∃ r h', Sp L xs 159 [.ref 397, .int x, .int y, .int z, .int u, .int v] h r h' ∧ Q r h' := by
  refine sp_ex (ls := [some (.ref 397), some (.int x), some (.int y), some (.int z), some (.int u), some (.int v)]) rfl ?_
  refine e_ld (pc' := 1) i159_0 rfl rfl ?_
  refine e_get (w := .ref 427) (pc' := 4) i159_1 rfl (x_isC (by decide) hw.1 sh397) (x_fvR (by decide +kernel) (hw.2 397 31 427 lk397_31)) ?_
  refine e_ld (pc' := 5) i159_4 rfl rfl ?_
  obtain ⟨k1, e2, g3, H⟩ := H
  refine e_al (n := k1) (w := .int (gI h 427 k1)) (pc' := 6) i159_5 rfl (x_alE (a := 20) (by decide) hw.1 sh427 (by decide) e2 g3 (by decide)) (x_clE e2 g3 (by decide)) rfl ?_
  refine e_cn (pc' := 7) i159_6 rfl ?_
  refine e_ic (pc' := 10) i159_7 rfl (fun c4 => ?_) (fun c4 => ?_)
  · have d5 : (gI h 427 k1) = (-1) := (of_decide_eq_true c4)
    replace H := H.1 d5
    refine e_ld (pc' := 22) i159_21 rfl rfl ?_
    refine e_get (w := .ref 427) (pc' := 25) i159_22 rfl (x_isC (by decide) hw.1 sh397) (x_fvR (by decide +kernel) (hw.2 397 31 427 lk397_31)) ?_
    refine e_ld (pc' := 26) i159_25 rfl rfl ?_
    refine e_ld (pc' := 27) i159_26 rfl rfl ?_
    refine e_as (n := k1) (h' := sI h 427 k1 y) (pc' := 28) i159_27 rfl (x_alE (a := 20) (by decide) hw.1 sh427 (by decide) e2 g3 (by decide)) (x_clE e2 g3 (by decide)) (by rw [(show (SH 427).1 = 20 by rw [sh427])]; rfl) ?_
    have w7 : HW (sI h 427 k1 y) := HW_sI hw
    refine e_ld (pc' := 29) i159_28 rfl rfl ?_
    refine e_get (w := .ref 428) (pc' := 32) i159_29 rfl (x_isC (by decide) w7.1 sh397) (x_fvR (by decide +kernel) (w7.2 397 32 428 lk397_32)) ?_
    refine e_ld (pc' := 33) i159_32 rfl rfl ?_
    refine e_ld (pc' := 35) i159_33 rfl rfl ?_
    refine e_as (n := k1) (h' := sI (sI h 427 k1 y) 428 k1 v) (pc' := 36) i159_35 rfl (x_alE (a := 20) (by decide) w7.1 sh428 (by decide) e2 g3 (by decide)) (x_clE e2 g3 (by decide)) (by rw [(show (SH 428).1 = 20 by rw [sh428])]; rfl) ?_
    have w9 : HW (sI (sI h 427 k1 y) 428 k1 v) := HW_sI w7
    refine e_ld (pc' := 37) i159_36 rfl rfl ?_
    refine e_get (w := .ref 429) (pc' := 40) i159_37 rfl (x_isC (by decide) w9.1 sh397) (x_fvR (by decide +kernel) (w9.2 397 33 429 lk397_33)) ?_
    refine e_ld (pc' := 41) i159_40 rfl rfl ?_
    refine e_ld (pc' := 43) i159_41 rfl rfl ?_
    refine e_as (n := k1) (h' := sI (sI (sI h 427 k1 y) 428 k1 v) 429 k1 u) (pc' := 44) i159_43 rfl (x_alE (a := 20) (by decide) w9.1 sh429 (by decide) e2 g3 (by decide)) (x_clE e2 g3 (by decide)) (by rw [(show (SH 429).1 = 20 by rw [sh429])]; rfl) ?_
    have w11 : HW (sI (sI (sI h 427 k1 y) 428 k1 v) 429 k1 u) := HW_sI w9
    refine e_rt i159_44 rfl ?_
    exact H
  · have d9 : ¬ ((gI h 427 k1) = (-1)) := (of_decide_eq_false c4)
    replace H := H.2 d9
    refine e_ld (pc' := 12) i159_10 rfl rfl ?_
    refine e_ld (pc' := 13) i159_12 rfl rfl ?_
    refine e_get (w := .ref 428) (pc' := 16) i159_13 rfl (x_isC (by decide) hw.1 sh397) (x_fvR (by decide +kernel) (hw.2 397 32 428 lk397_32)) ?_
    refine e_ld (pc' := 17) i159_16 rfl rfl ?_
    refine e_al (n := k1) (w := .int (gI h 428 k1)) (pc' := 18) i159_17 rfl (x_alE (a := 20) (by decide) hw.1 sh428 (by decide) e2 g3 (by decide)) (x_clE e2 g3 (by decide)) rfl ?_
    refine e_ic (pc' := 21) i159_18 rfl (fun c10 => ?_) (fun c10 => ?_)
    · have d11 : (gI h 428 k1) ≤ v := (of_decide_eq_true c10)
      replace H := H.1 d11
      refine e_rt i159_44 rfl ?_
      exact H
    · have d12 : ¬ ((gI h 428 k1) ≤ v) := (of_decide_eq_false c10)
      replace H := H.2 d12
      refine e_ld (pc' := 22) i159_21 rfl rfl ?_
      refine e_get (w := .ref 427) (pc' := 25) i159_22 rfl (x_isC (by decide) hw.1 sh397) (x_fvR (by decide +kernel) (hw.2 397 31 427 lk397_31)) ?_
      refine e_ld (pc' := 26) i159_25 rfl rfl ?_
      refine e_ld (pc' := 27) i159_26 rfl rfl ?_
      refine e_as (n := k1) (h' := sI h 427 k1 y) (pc' := 28) i159_27 rfl (x_alE (a := 20) (by decide) hw.1 sh427 (by decide) e2 g3 (by decide)) (x_clE e2 g3 (by decide)) (by rw [(show (SH 427).1 = 20 by rw [sh427])]; rfl) ?_
      have w14 : HW (sI h 427 k1 y) := HW_sI hw
      refine e_ld (pc' := 29) i159_28 rfl rfl ?_
      refine e_get (w := .ref 428) (pc' := 32) i159_29 rfl (x_isC (by decide) w14.1 sh397) (x_fvR (by decide +kernel) (w14.2 397 32 428 lk397_32)) ?_
      refine e_ld (pc' := 33) i159_32 rfl rfl ?_
      refine e_ld (pc' := 35) i159_33 rfl rfl ?_
      refine e_as (n := k1) (h' := sI (sI h 427 k1 y) 428 k1 v) (pc' := 36) i159_35 rfl (x_alE (a := 20) (by decide) w14.1 sh428 (by decide) e2 g3 (by decide)) (x_clE e2 g3 (by decide)) (by rw [(show (SH 428).1 = 20 by rw [sh428])]; rfl) ?_
      have w16 : HW (sI (sI h 427 k1 y) 428 k1 v) := HW_sI w14
      refine e_ld (pc' := 37) i159_36 rfl rfl ?_
      refine e_get (w := .ref 429) (pc' := 40) i159_37 rfl (x_isC (by decide) w16.1 sh397) (x_fvR (by decide +kernel) (w16.2 397 33 429 lk397_33)) ?_
      refine e_ld (pc' := 41) i159_40 rfl rfl ?_
      refine e_ld (pc' := 43) i159_41 rfl rfl ?_
      refine e_as (n := k1) (h' := sI (sI (sI h 427 k1 y) 428 k1 v) 429 k1 u) (pc' := 44) i159_43 rfl (x_alE (a := 20) (by decide) w16.1 sh429 (by decide) e2 g3 (by decide)) (x_clE e2 g3 (by decide)) (by rw [(show (SH 429).1 = 20 by rw [sh429])]; rfl) ?_
      have w18 : HW (sI (sI (sI h 427 k1 y) 428 k1 v) 429 k1 u) := HW_sI w16
      refine e_rt i159_44 rfl ?_
      exact H
-- FloorTurnModel.tunnels(III)V
set_option maxHeartbeats 8000000 in
set_option maxRecDepth 100000 in
theorem v160 {L : Nat} {xs : Nat → Int32} {Q : Option Value → Hp → Prop} {h : Hp} {x : Int32} {y : Int32} {z : Int32} (hw : HW h) 
  (H : WP L xs 160 6 [some (.ref 397), some (.int x), some (.int y), some (.int z), some (.int y), some (.int 1)] [] h Q) : ∃ r h', Sp L xs 160 [.ref 397, .int x, .int y, .int z] h r h' ∧ Q r h' := by
  refine sp_ex (ls := [some (.ref 397), some (.int x), some (.int y), some (.int z), none, none]) rfl ?_
  refine e_ld (pc' := 1) i160_0 rfl rfl ?_
  refine e_st (ls' := [some (.ref 397), some (.int x), some (.int y), some (.int z), some (.int y), none]) (pc' := 3) i160_1 rfl rfl rfl ?_
  refine e_cn (pc' := 4) i160_3 rfl ?_
  refine e_st (ls' := [some (.ref 397), some (.int x), some (.int y), some (.int z), some (.int y), some (.int 1)]) (pc' := 6) i160_4 rfl rfl rfl ?_
  exact H
set_option maxHeartbeats 8000000 in
set_option maxRecDepth 100000 in
theorem v160_6 {L : Nat} {xs : Nat → Int32} {Q : Option Value → Hp → Prop} {h : Hp} {l1 : Int32} {l2 : Int32} {l3 : Int32} {l4 : Int32} {l5 : Int32} (hw : HW h) 
  (H : ((5 < l5) → (Q none h)) ∧ (¬ (5 < l5) → (∃ k4 : Nat, l2 = nI k4 ∧ k4 < 144 ∧ (((nxt l4 (gI h 406 k4)) = (-1)) → (Q none h)) ∧ (¬ ((nxt l4 (gI h 406 k4)) = (-1)) → (∃ k9 : Nat, (nxt l4 (gI h 406 k4)) = nI k9 ∧ k9 < 144 ∧ (((gI h 405 k9) = 3) → ((((gI h 406 k9) = (gI h 406 k4)) → (∃ (r19 : Int32), Sp L xs 157 [.ref 397, .int l1, .int (nxt l4 (gI h 406 k4)), .int l3, .int (((gI h 406 k4) + 2) - ((gI h 406 k4) + 2) / 4 * 4), .int l2] h (some (.int r19)) h ∧ ((r19 = 0) → (Q none h)) ∧ (¬ (r19 = 0) → (∃ (h23 : Hp), Sp L xs 159 [.ref 397, .int l1, .int l2, .int (nxt l4 (gI h 406 k4)), .int (((gI h 406 k4) + 2) - ((gI h 406 k4) + 2) / 4 * 4), .int l5] h none h23 ∧ Q none h23)))) ∧ (¬ ((gI h 406 k9) = (gI h 406 k4)) → (WP L xs 160 6 [some (.ref 397), some (.int l1), some (.int l2), some (.int l3), some (.int (nxt l4 (gI h 406 k4))), some (.int (l5 + 1))] [] h Q)))) ∧ (¬ ((gI h 405 k9) = 3) → (WP L xs 160 6 [some (.ref 397), some (.int l1), some (.int l2), some (.int l3), some (.int (nxt l4 (gI h 406 k4))), some (.int (l5 + 1))] [] h Q))))))) : WP L xs 160 6 [some (.ref 397), some (.int l1), some (.int l2), some (.int l3), some (.int l4), some (.int l5)] [] h Q := by
  refine e_ld (pc' := 8) i160_6 rfl rfl ?_
  refine e_cn (pc' := 9) i160_8 rfl ?_
  refine e_ic (pc' := 12) i160_9 rfl (fun c1 => ?_) (fun c1 => ?_)
  · have d2 : 5 < l5 := (of_decide_eq_true c1)
    replace H := H.1 d2
    refine e_rt i160_108 rfl ?_
    exact H
  · have d3 : ¬ (5 < l5) := (of_decide_eq_false c1)
    replace H := H.2 d3
    refine e_ld (pc' := 14) i160_12 rfl rfl ?_
    refine e_ld (pc' := 15) i160_14 rfl rfl ?_
    refine e_get (w := .ref 406) (pc' := 18) i160_15 rfl (x_isC (by decide) hw.1 sh397) (x_fvR (by decide +kernel) (hw.2 397 9 406 lk397_9)) ?_
    refine e_ld (pc' := 19) i160_18 rfl rfl ?_
    obtain ⟨k4, e5, g6, H⟩ := H
    refine e_al (n := k4) (w := .int (gI h 406 k4)) (pc' := 20) i160_19 rfl (x_alE (a := 20) (by decide) hw.1 sh406 (by decide) e5 g6 (by decide)) (x_clE e5 g6 (by decide)) rfl ?_
    refine e_cI (w := .int (nxt l4 (gI h 406 k4))) (As := [.int l4, .int (gI h 406 k4)]) (rest := []) (pc' := 23) i160_20 rfl rfl rfl rfl rfl m127 ?_
    refine e_st (ls' := [some (.ref 397), some (.int l1), some (.int l2), some (.int l3), some (.int (nxt l4 (gI h 406 k4))), some (.int l5)]) (pc' := 25) i160_23 rfl rfl rfl ?_
    refine e_ld (pc' := 27) i160_25 rfl rfl ?_
    refine e_cn (pc' := 28) i160_27 rfl ?_
    refine e_ic (pc' := 31) i160_28 rfl (fun c7 => ?_) (fun c7 => ?_)
    · have d8 : ¬ ((nxt l4 (gI h 406 k4)) = (-1)) := (of_decide_eq_true c7)
      replace H := H.2 d8
      refine e_ld (pc' := 33) i160_32 rfl rfl ?_
      refine e_get (w := .ref 405) (pc' := 36) i160_33 rfl (x_isC (by decide) hw.1 sh397) (x_fvR (by decide +kernel) (hw.2 397 8 405 lk397_8)) ?_
      refine e_ld (pc' := 38) i160_36 rfl rfl ?_
      obtain ⟨k9, e10, g11, H⟩ := H
      refine e_al (n := k9) (w := .int (gI h 405 k9)) (pc' := 39) i160_38 rfl (x_alE (a := 20) (by decide) hw.1 sh405 (by decide) e10 g11 (by decide)) (x_clE e10 g11 (by decide)) rfl ?_
      refine e_cn (pc' := 40) i160_39 rfl ?_
      refine e_ic (pc' := 43) i160_40 rfl (fun c12 => ?_) (fun c12 => ?_)
      · have d13 : ¬ ((gI h 405 k9) = 3) := (of_decide_eq_true c12)
        replace H := H.2 d13
        refine e_inc (z := l5 + 1) (ls' := [some (.ref 397), some (.int l1), some (.int l2), some (.int l3), some (.int (nxt l4 (gI h 406 k4))), some (.int (l5 + 1))]) (pc' := 105) i160_102 rfl rfl rfl rfl ?_
        refine e_go i160_105 ?_
        exact H
      · have d14 : (gI h 405 k9) = 3 := (Decidable.not_not.mp (of_decide_eq_false c12))
        replace H := H.1 d14
        refine e_ld (pc' := 44) i160_43 rfl rfl ?_
        refine e_get (w := .ref 406) (pc' := 47) i160_44 rfl (x_isC (by decide) hw.1 sh397) (x_fvR (by decide +kernel) (hw.2 397 9 406 lk397_9)) ?_
        refine e_ld (pc' := 49) i160_47 rfl rfl ?_
        refine e_al (n := k9) (w := .int (gI h 406 k9)) (pc' := 50) i160_49 rfl (x_alE (a := 20) (by decide) hw.1 sh406 (by decide) e10 g11 (by decide)) (x_clE e10 g11 (by decide)) rfl ?_
        refine e_ld (pc' := 51) i160_50 rfl rfl ?_
        refine e_get (w := .ref 406) (pc' := 54) i160_51 rfl (x_isC (by decide) hw.1 sh397) (x_fvR (by decide +kernel) (hw.2 397 9 406 lk397_9)) ?_
        refine e_ld (pc' := 55) i160_54 rfl rfl ?_
        refine e_al (n := k4) (w := .int (gI h 406 k4)) (pc' := 56) i160_55 rfl (x_alE (a := 20) (by decide) hw.1 sh406 (by decide) e5 g6 (by decide)) (x_clE e5 g6 (by decide)) rfl ?_
        refine e_ic (pc' := 59) i160_56 rfl (fun c15 => ?_) (fun c15 => ?_)
        · have d16 : ¬ ((gI h 406 k9) = (gI h 406 k4)) := (of_decide_eq_true c15)
          replace H := H.2 d16
          refine e_inc (z := l5 + 1) (ls' := [some (.ref 397), some (.int l1), some (.int l2), some (.int l3), some (.int (nxt l4 (gI h 406 k4))), some (.int (l5 + 1))]) (pc' := 105) i160_102 rfl rfl rfl rfl ?_
          refine e_go i160_105 ?_
          exact H
        · have d17 : (gI h 406 k9) = (gI h 406 k4) := (Decidable.not_not.mp (of_decide_eq_false c15))
          replace H := H.1 d17
          refine e_ld (pc' := 60) i160_59 rfl rfl ?_
          refine e_ld (pc' := 61) i160_60 rfl rfl ?_
          refine e_ld (pc' := 63) i160_61 rfl rfl ?_
          refine e_ld (pc' := 64) i160_63 rfl rfl ?_
          refine e_ld (pc' := 65) i160_64 rfl rfl ?_
          refine e_get (w := .ref 406) (pc' := 68) i160_65 rfl (x_isC (by decide) hw.1 sh397) (x_fvR (by decide +kernel) (hw.2 397 9 406 lk397_9)) ?_
          refine e_ld (pc' := 69) i160_68 rfl rfl ?_
          refine e_al (n := k4) (w := .int (gI h 406 k4)) (pc' := 70) i160_69 rfl (x_alE (a := 20) (by decide) hw.1 sh406 (by decide) e5 g6 (by decide)) (x_clE e5 g6 (by decide)) rfl ?_
          refine e_cn (pc' := 71) i160_70 rfl ?_
          refine e_ib (z := (gI h 406 k4) + 2) (pc' := 72) i160_71 rfl rfl ?_
          refine e_cn (pc' := 73) i160_72 rfl ?_
          refine e_ib (z := ((gI h 406 k4) + 2) - ((gI h 406 k4) + 2) / 4 * 4) (pc' := 74) i160_73 rfl (x_ib_rem (by decide)) ?_
          refine e_ld (pc' := 75) i160_74 rfl rfl ?_
          obtain ⟨r19, s18, H⟩ := H
          refine e_cI (w := .int r19) (As := [.ref 397, .int l1, .int (nxt l4 (gI h 406 k4)), .int l3, .int (((gI h 406 k4) + 2) - ((gI h 406 k4) + 2) / 4 * 4), .int l2]) (rest := []) (pc' := 78) i160_75 rfl rfl rfl rfl (by show (Nat.beq (x_kd 157) 0 && x_is 397 _ (MC 157) 0) = true; rw [show x_kd 157 = 0 by decide +kernel, show MC 157 = 11 by decide +kernel, (x_isC (by decide) hw.1 sh397)]; rfl) s18 ?_
          refine e_if (pc' := 81) i160_78 rfl (fun c20 => ?_) (fun c20 => ?_)
          · have d21 : r19 = 0 := (of_decide_eq_true c20)
            replace H := H.1 d21
            refine e_rt i160_101 rfl ?_
            exact H
          · have d22 : ¬ (r19 = 0) := (of_decide_eq_false c20)
            replace H := H.2 d22
            refine e_ld (pc' := 82) i160_81 rfl rfl ?_
            refine e_ld (pc' := 83) i160_82 rfl rfl ?_
            refine e_ld (pc' := 84) i160_83 rfl rfl ?_
            refine e_ld (pc' := 86) i160_84 rfl rfl ?_
            refine e_ld (pc' := 87) i160_86 rfl rfl ?_
            refine e_get (w := .ref 406) (pc' := 90) i160_87 rfl (x_isC (by decide) hw.1 sh397) (x_fvR (by decide +kernel) (hw.2 397 9 406 lk397_9)) ?_
            refine e_ld (pc' := 91) i160_90 rfl rfl ?_
            refine e_al (n := k4) (w := .int (gI h 406 k4)) (pc' := 92) i160_91 rfl (x_alE (a := 20) (by decide) hw.1 sh406 (by decide) e5 g6 (by decide)) (x_clE e5 g6 (by decide)) rfl ?_
            refine e_cn (pc' := 93) i160_92 rfl ?_
            refine e_ib (z := (gI h 406 k4) + 2) (pc' := 94) i160_93 rfl rfl ?_
            refine e_cn (pc' := 95) i160_94 rfl ?_
            refine e_ib (z := ((gI h 406 k4) + 2) - ((gI h 406 k4) + 2) / 4 * 4) (pc' := 96) i160_95 rfl (x_ib_rem (by decide)) ?_
            refine e_ld (pc' := 98) i160_96 rfl rfl ?_
            obtain ⟨h23, s24, H⟩ := H
            have w26q := HW_sp (show x_okm 159 = true by rfl) s24 hw
            have w26 : HW h23 := w26q.1
            refine e_cV (As := [.ref 397, .int l1, .int l2, .int (nxt l4 (gI h 406 k4)), .int (((gI h 406 k4) + 2) - ((gI h 406 k4) + 2) / 4 * 4), .int l5]) (rest := []) (pc' := 101) i160_98 rfl rfl rfl rfl (by show (Nat.beq (x_kd 159) 0 && x_is 397 _ (MC 159) 0) = true; rw [show x_kd 159 = 0 by decide +kernel, show MC 159 = 11 by decide +kernel, (x_isC (by decide) hw.1 sh397)]; rfl) s24 ?_
            refine e_rt i160_101 rfl ?_
            exact H
    · have d26 : (nxt l4 (gI h 406 k4)) = (-1) := (Decidable.not_not.mp (of_decide_eq_false c7))
      replace H := H.1 d26
      refine e_rt i160_31 rfl ?_
      exact H
-- FloorTurnModel.gives(IIII)Z
set_option maxHeartbeats 8000000 in
set_option maxRecDepth 100000 in
theorem v161 {L : Nat} {xs : Nat → Int32} {Q : Option Value → Hp → Prop} {h : Hp} {x : Int32} {y : Int32} {z : Int32} {u : Int32} (hw : HW h) 
  (H : (((nxt y z) = (-1)) → (Q (some (.int 0)) h)) ∧ (¬ ((nxt y z) = (-1)) → (∃ (r5 : Int32), Sp L xs 157 [.ref 397, .int x, .int (nxt y z), .int u, .int ((z + 2) - (z + 2) / 4 * 4), .int y] h (some (.int r5)) h ∧ ((r5 = 0) → (Q (some (.int 0)) h)) ∧ (¬ (r5 = 0) → (∃ k8 : Nat, ((144 * x) + (nxt y z)) = nI k8 ∧ k8 < 432 ∧ ∃ (h11 : Hp), Sp L xs 159 [.ref 397, .int x, .int y, .int (nxt y z), .int ((z + 2) - (z + 2) / 4 * 4), .int (((((z + 2) - (z + 2) / 4 * 4) - (gI h 418 k8)) + 7) - ((((z + 2) - (z + 2) / 4 * 4) - (gI h 418 k8)) + 7) / 4 * 4)] h none h11 ∧ Q (some (.int 1)) h11))))) : ∃ r h', Sp L xs 161 [.ref 397, .int x, .int y, .int z, .int u] h r h' ∧ Q r h' := by
  refine sp_ex (ls := [some (.ref 397), some (.int x), some (.int y), some (.int z), some (.int u), none, none]) rfl ?_
  refine e_ld (pc' := 1) i161_0 rfl rfl ?_
  refine e_ld (pc' := 2) i161_1 rfl rfl ?_
  refine e_cI (w := .int (nxt y z)) (As := [.int y, .int z]) (rest := []) (pc' := 5) i161_2 rfl rfl rfl rfl rfl m127 ?_
  refine e_st (ls' := [some (.ref 397), some (.int x), some (.int y), some (.int z), some (.int u), some (.int (nxt y z)), none]) (pc' := 7) i161_5 rfl rfl rfl ?_
  refine e_ld (pc' := 8) i161_7 rfl rfl ?_
  refine e_cn (pc' := 9) i161_8 rfl ?_
  refine e_ib (z := z + 2) (pc' := 10) i161_9 rfl rfl ?_
  refine e_cn (pc' := 11) i161_10 rfl ?_
  refine e_ib (z := (z + 2) - (z + 2) / 4 * 4) (pc' := 12) i161_11 rfl (x_ib_rem (by decide)) ?_
  refine e_st (ls' := [some (.ref 397), some (.int x), some (.int y), some (.int z), some (.int u), some (.int (nxt y z)), some (.int ((z + 2) - (z + 2) / 4 * 4))]) (pc' := 14) i161_12 rfl rfl rfl ?_
  refine e_ld (pc' := 16) i161_14 rfl rfl ?_
  refine e_cn (pc' := 17) i161_16 rfl ?_
  refine e_ic (pc' := 20) i161_17 rfl (fun c1 => ?_) (fun c1 => ?_)
  · have d2 : (nxt y z) = (-1) := (of_decide_eq_true c1)
    replace H := H.1 d2
    refine e_cn (pc' := 36) i161_35 rfl ?_
    refine e_rt i161_36 rfl ?_
    exact H
  · have d3 : ¬ ((nxt y z) = (-1)) := (of_decide_eq_false c1)
    replace H := H.2 d3
    refine e_ld (pc' := 21) i161_20 rfl rfl ?_
    refine e_ld (pc' := 22) i161_21 rfl rfl ?_
    refine e_ld (pc' := 24) i161_22 rfl rfl ?_
    refine e_ld (pc' := 26) i161_24 rfl rfl ?_
    refine e_ld (pc' := 28) i161_26 rfl rfl ?_
    refine e_ld (pc' := 29) i161_28 rfl rfl ?_
    obtain ⟨r5, s4, H⟩ := H
    refine e_cI (w := .int r5) (As := [.ref 397, .int x, .int (nxt y z), .int u, .int ((z + 2) - (z + 2) / 4 * 4), .int y]) (rest := []) (pc' := 32) i161_29 rfl rfl rfl rfl (by show (Nat.beq (x_kd 157) 0 && x_is 397 _ (MC 157) 0) = true; rw [show x_kd 157 = 0 by decide +kernel, show MC 157 = 11 by decide +kernel, (x_isC (by decide) hw.1 sh397)]; rfl) s4 ?_
    refine e_if (pc' := 35) i161_32 rfl (fun c6 => ?_) (fun c6 => ?_)
    · have d7 : ¬ (r5 = 0) := (of_decide_eq_true c6)
      replace H := H.2 d7
      refine e_ld (pc' := 38) i161_37 rfl rfl ?_
      refine e_ld (pc' := 39) i161_38 rfl rfl ?_
      refine e_ld (pc' := 40) i161_39 rfl rfl ?_
      refine e_ld (pc' := 42) i161_40 rfl rfl ?_
      refine e_ld (pc' := 44) i161_42 rfl rfl ?_
      refine e_ld (pc' := 46) i161_44 rfl rfl ?_
      refine e_ld (pc' := 47) i161_46 rfl rfl ?_
      refine e_get (w := .ref 418) (pc' := 50) i161_47 rfl (x_isC (by decide) hw.1 sh397) (x_fvR (by decide +kernel) (hw.2 397 22 418 lk397_22)) ?_
      refine e_cn (pc' := 53) i161_50 rfl ?_
      refine e_ld (pc' := 54) i161_53 rfl rfl ?_
      refine e_ib (z := 144 * x) (pc' := 55) i161_54 rfl rfl ?_
      refine e_ld (pc' := 57) i161_55 rfl rfl ?_
      refine e_ib (z := (144 * x) + (nxt y z)) (pc' := 58) i161_57 rfl rfl ?_
      obtain ⟨k8, e9, g10, H⟩ := H
      refine e_al (n := k8) (w := .int (gI h 418 k8)) (pc' := 59) i161_58 rfl (x_alE (a := 20) (by decide) hw.1 sh418 (by decide) e9 g10 (by decide)) (x_clE e9 g10 (by decide)) rfl ?_
      refine e_ib (z := ((z + 2) - (z + 2) / 4 * 4) - (gI h 418 k8)) (pc' := 60) i161_59 rfl rfl ?_
      refine e_cn (pc' := 62) i161_60 rfl ?_
      refine e_ib (z := (((z + 2) - (z + 2) / 4 * 4) - (gI h 418 k8)) + 7) (pc' := 63) i161_62 rfl rfl ?_
      refine e_cn (pc' := 64) i161_63 rfl ?_
      refine e_ib (z := ((((z + 2) - (z + 2) / 4 * 4) - (gI h 418 k8)) + 7) - ((((z + 2) - (z + 2) / 4 * 4) - (gI h 418 k8)) + 7) / 4 * 4) (pc' := 65) i161_64 rfl (x_ib_rem (by decide)) ?_
      obtain ⟨h11, s12, H⟩ := H
      have w14q := HW_sp (show x_okm 159 = true by rfl) s12 hw
      have w14 : HW h11 := w14q.1
      refine e_cV (As := [.ref 397, .int x, .int y, .int (nxt y z), .int ((z + 2) - (z + 2) / 4 * 4), .int (((((z + 2) - (z + 2) / 4 * 4) - (gI h 418 k8)) + 7) - ((((z + 2) - (z + 2) / 4 * 4) - (gI h 418 k8)) + 7) / 4 * 4)]) (rest := []) (pc' := 68) i161_65 rfl rfl rfl rfl (by show (Nat.beq (x_kd 159) 0 && x_is 397 _ (MC 159) 0) = true; rw [show x_kd 159 = 0 by decide +kernel, show MC 159 = 11 by decide +kernel, (x_isC (by decide) hw.1 sh397)]; rfl) s12 ?_
      refine e_cn (pc' := 69) i161_68 rfl ?_
      refine e_rt i161_69 rfl ?_
      exact H
    · have d14 : r5 = 0 := (Decidable.not_not.mp (of_decide_eq_false c6))
      replace H := H.1 d14
      refine e_cn (pc' := 36) i161_35 rfl ?_
      refine e_rt i161_36 rfl ?_
      exact H
