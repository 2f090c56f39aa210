/-! The reference's methods without loops, as functions. -/
/-- FloorTurnModel.part(II)I -/
def F176 (a : Int32) (b : Int32) (h : Hp) : Int32 := if (x_isCell a) = true then (if (x_in3 b 0 14) = true then (if (gI h 405 a.toNatClampNeg) = 0 then (0) else (if b = 0 then (gI h 405 a.toNatClampNeg) else (if b = 1 then (gI h 406 a.toNatClampNeg) else (if b = 2 then (F156 0 a h) else (if b = 3 then (gI h 413 a.toNatClampNeg) else (if b = 4 then (gI h 414 a.toNatClampNeg) else (if b = 5 then (gI h 415 a.toNatClampNeg) else (if b = 6 then (if (gI h 416 a.toNatClampNeg) = 0 then (0) else (1)) else (if b = 7 then (gI h 417 ((2 * a).toNatClampNeg)) else (if b = 8 then (gI h 417 (((2 * a) + 1).toNatClampNeg)) else (if b = 9 then (gI h 418 a.toNatClampNeg) else (if b = 10 then (gI h 419 a.toNatClampNeg) else (if b = 11 then (gI h 407 a.toNatClampNeg) else (if b = 12 then (gI h 408 a.toNatClampNeg) else (if b = 13 then (gI h 409 a.toNatClampNeg) else (gI h 410 a.toNatClampNeg)))))))))))))))) else ((-1))) else ((-1))
def P176 (a : Int32) (b : Int32) (h : Hp) : Prop := (((x_isCell a) = true) → ((((x_in3 b 0 14) = true) → ((vp_in a 144) ∧ ((((gI h 405 a.toNatClampNeg) = 0) → (True)) ∧ (¬ ((gI h 405 a.toNatClampNeg) = 0) → (((b = 0) → ((vp_in a 144) ∧ (True))) ∧ (¬ (b = 0) → (((b = 1) → ((vp_in a 144) ∧ (True))) ∧ (¬ (b = 1) → (((b = 2) → ((P156 0 a h) ∧ (True))) ∧ (¬ (b = 2) → (((b = 3) → ((vp_in a 432) ∧ (True))) ∧ (¬ (b = 3) → (((b = 4) → ((vp_in a 432) ∧ (True))) ∧ (¬ (b = 4) → (((b = 5) → ((vp_in a 432) ∧ (True))) ∧ (¬ (b = 5) → (((b = 6) → ((vp_in a 432) ∧ ((((gI h 416 a.toNatClampNeg) = 0) → (True)) ∧ (¬ ((gI h 416 a.toNatClampNeg) = 0) → (True))))) ∧ (¬ (b = 6) → (((b = 7) → ((vp_in (2 * a) 864) ∧ (True))) ∧ (¬ (b = 7) → (((b = 8) → ((vp_in ((2 * a) + 1) 864) ∧ (True))) ∧ (¬ (b = 8) → (((b = 9) → ((vp_in a 432) ∧ (True))) ∧ (¬ (b = 9) → (((b = 10) → ((vp_in a 432) ∧ (True))) ∧ (¬ (b = 10) → (((b = 11) → ((vp_in a 144) ∧ (True))) ∧ (¬ (b = 11) → (((b = 12) → ((vp_in a 144) ∧ (True))) ∧ (¬ (b = 12) → (((b = 13) → ((vp_in a 144) ∧ (True))) ∧ (¬ (b = 13) → ((vp_in a 144) ∧ (True)))))))))))))))))))))))))))))))))) ∧ (¬ ((x_in3 b 0 14) = true) → (True)))) ∧ (¬ ((x_isCell a) = true) → (True))
set_option maxHeartbeats 8000000 in
theorem m176 {L : Nat} {xs : Nat → Int32} {h : Hp} {a : Int32} {b : Int32} (hn : 444 ≤ h.1) (hL : LK h) (hP : P176 a b h) : Sp L xs 176 [.ref 397, .int a, .int b] h (some (.int (F176 a b h))) h := by
  unfold P176 at hP
  refine sp_of (ls := [some (.ref 397), some (.int a), some (.int b)]) rfl ?_
  refine e_ld (pc' := 1) i176_0 rfl rfl ?_
  refine e_cI (w := .int (b2i (x_isCell a))) (As := [.int a]) (rest := []) (pc' := 4) i176_1 rfl rfl rfl rfl rfl m125 ?_
  refine e_b0 (pc' := 7) i176_4 rfl (fun c1 => ?_) (fun c1 => ?_)
  · replace hP := hP.2 (show ¬ (x_isCell a) = true by rw [c1]; decide)
    refine e_cn (pc' := 18) i176_17 rfl ?_
    refine e_rt i176_18 rfl ?_
    exact ⟨by unfold F176; simp only [if_neg (show ¬ (x_isCell a) = true by rw [c1]; decide)], rfl⟩
  · replace hP := hP.1 c1
    refine e_ld (pc' := 8) i176_7 rfl rfl ?_
    refine e_cn (pc' := 9) i176_8 rfl ?_
    refine e_cn (pc' := 11) i176_9 rfl ?_
    refine e_cI (w := .int (b2i (x_in3 b 0 14))) (As := [.int b, .int 0, .int 14]) (rest := []) (pc' := 14) i176_11 rfl rfl rfl rfl rfl m123 ?_
    refine e_b1 (pc' := 17) i176_14 rfl (fun c2 => ?_) (fun c2 => ?_)
    · replace hP := hP.1 c2
      refine e_ld (pc' := 20) i176_19 rfl rfl ?_
      refine e_get (w := .ref 405) (pc' := 23) i176_20 rfl (x_isC (by decide) hn sh397) (x_fvR (by decide +kernel) (hL 397 8 405 lk397_8)) ?_
      refine e_ld (pc' := 24) i176_23 rfl rfl ?_
      obtain ⟨g3, hP⟩ := hP
      refine e_al (n := a.toNatClampNeg) (w := .int (gI h 405 a.toNatClampNeg)) (pc' := 25) i176_24 rfl (x_alX (a := 20) (by decide) hn sh405 (by decide) g3) rfl rfl ?_
      refine e_if (pc' := 28) i176_25 rfl (fun c4 => ?_) (fun c4 => ?_)
      · replace hP := hP.2 (of_decide_eq_true c4)
        refine e_ld (pc' := 31) i176_30 rfl rfl ?_
        by_cases c5 : b = 0
        · replace hP := hP.1 c5
          refine e_tab (pc' := 100) i176_31 (by rw [c5]; rfl) ?_
          refine e_ld (pc' := 101) i176_100 rfl rfl ?_
          refine e_get (w := .ref 405) (pc' := 104) i176_101 rfl (x_isC (by decide) hn sh397) (x_fvR (by decide +kernel) (hL 397 8 405 lk397_8)) ?_
          refine e_ld (pc' := 105) i176_104 rfl rfl ?_
          obtain ⟨g6, hP⟩ := hP
          refine e_al (n := a.toNatClampNeg) (w := .int (gI h 405 a.toNatClampNeg)) (pc' := 106) i176_105 rfl (x_alX (a := 20) (by decide) hn sh405 (by decide) g6) rfl rfl ?_
          refine e_rt i176_106 rfl ?_
          exact ⟨by unfold F176; simp only [if_pos c1, if_pos c2, if_neg (show ¬ ((gI h 405 a.toNatClampNeg) = 0) from (of_decide_eq_true c4)), if_pos c5], rfl⟩
        · replace hP := hP.2 c5
          by_cases c7 : b = 1
          · replace hP := hP.1 c7
            refine e_tab (pc' := 107) i176_31 (by rw [c7]; rfl) ?_
            refine e_ld (pc' := 108) i176_107 rfl rfl ?_
            refine e_get (w := .ref 406) (pc' := 111) i176_108 rfl (x_isC (by decide) hn sh397) (x_fvR (by decide +kernel) (hL 397 9 406 lk397_9)) ?_
            refine e_ld (pc' := 112) i176_111 rfl rfl ?_
            obtain ⟨g8, hP⟩ := hP
            refine e_al (n := a.toNatClampNeg) (w := .int (gI h 406 a.toNatClampNeg)) (pc' := 113) i176_112 rfl (x_alX (a := 20) (by decide) hn sh406 (by decide) g8) rfl rfl ?_
            refine e_rt i176_113 rfl ?_
            exact ⟨by unfold F176; simp only [if_pos c1, if_pos c2, if_neg (show ¬ ((gI h 405 a.toNatClampNeg) = 0) from (of_decide_eq_true c4)), if_neg c5, if_pos c7], rfl⟩
          · replace hP := hP.2 c7
            by_cases c9 : b = 2
            · replace hP := hP.1 c9
              refine e_tab (pc' := 114) i176_31 (by rw [c9]; rfl) ?_
              refine e_ld (pc' := 115) i176_114 rfl rfl ?_
              refine e_cn (pc' := 116) i176_115 rfl ?_
              refine e_ld (pc' := 117) i176_116 rfl rfl ?_
              obtain ⟨g10, hP⟩ := hP
              refine e_cI (w := .int (F156 0 a h)) (As := [.ref 397, .int 0, .int a]) (rest := []) (pc' := 120) i176_117 rfl rfl rfl rfl (by show (Nat.beq (x_kd 156) 0 && x_is 397 _ (MC 156) 0) = true; rw [show x_kd 156 = 0 by decide +kernel, show MC 156 = 11 by decide +kernel, (x_isC (by decide) hn sh397)]; rfl) (m156 hn hL g10) ?_
              refine e_rt i176_120 rfl ?_
              exact ⟨by unfold F176; simp only [if_pos c1, if_pos c2, if_neg (show ¬ ((gI h 405 a.toNatClampNeg) = 0) from (of_decide_eq_true c4)), if_neg c5, if_neg c7, if_pos c9], rfl⟩
            · replace hP := hP.2 c9
              by_cases c11 : b = 3
              · replace hP := hP.1 c11
                refine e_tab (pc' := 121) i176_31 (by rw [c11]; rfl) ?_
                refine e_ld (pc' := 122) i176_121 rfl rfl ?_
                refine e_get (w := .ref 413) (pc' := 125) i176_122 rfl (x_isC (by decide) hn sh397) (x_fvR (by decide +kernel) (hL 397 17 413 lk397_17)) ?_
                refine e_ld (pc' := 126) i176_125 rfl rfl ?_
                obtain ⟨g12, hP⟩ := hP
                refine e_al (n := a.toNatClampNeg) (w := .int (gI h 413 a.toNatClampNeg)) (pc' := 127) i176_126 rfl (x_alX (a := 20) (by decide) hn sh413 (by decide) g12) rfl rfl ?_
                refine e_rt i176_127 rfl ?_
                exact ⟨by unfold F176; simp only [if_pos c1, if_pos c2, if_neg (show ¬ ((gI h 405 a.toNatClampNeg) = 0) from (of_decide_eq_true c4)), if_neg c5, if_neg c7, if_neg c9, if_pos c11], rfl⟩
              · replace hP := hP.2 c11
                by_cases c13 : b = 4
                · replace hP := hP.1 c13
                  refine e_tab (pc' := 128) i176_31 (by rw [c13]; rfl) ?_
                  refine e_ld (pc' := 129) i176_128 rfl rfl ?_
                  refine e_get (w := .ref 414) (pc' := 132) i176_129 rfl (x_isC (by decide) hn sh397) (x_fvR (by decide +kernel) (hL 397 18 414 lk397_18)) ?_
                  refine e_ld (pc' := 133) i176_132 rfl rfl ?_
                  obtain ⟨g14, hP⟩ := hP
                  refine e_al (n := a.toNatClampNeg) (w := .int (gI h 414 a.toNatClampNeg)) (pc' := 134) i176_133 rfl (x_alX (a := 20) (by decide) hn sh414 (by decide) g14) rfl rfl ?_
                  refine e_rt i176_134 rfl ?_
                  exact ⟨by unfold F176; simp only [if_pos c1, if_pos c2, if_neg (show ¬ ((gI h 405 a.toNatClampNeg) = 0) from (of_decide_eq_true c4)), if_neg c5, if_neg c7, if_neg c9, if_neg c11, if_pos c13], rfl⟩
                · replace hP := hP.2 c13
                  by_cases c15 : b = 5
                  · replace hP := hP.1 c15
                    refine e_tab (pc' := 135) i176_31 (by rw [c15]; rfl) ?_
                    refine e_ld (pc' := 136) i176_135 rfl rfl ?_
                    refine e_get (w := .ref 415) (pc' := 139) i176_136 rfl (x_isC (by decide) hn sh397) (x_fvR (by decide +kernel) (hL 397 19 415 lk397_19)) ?_
                    refine e_ld (pc' := 140) i176_139 rfl rfl ?_
                    obtain ⟨g16, hP⟩ := hP
                    refine e_al (n := a.toNatClampNeg) (w := .int (gI h 415 a.toNatClampNeg)) (pc' := 141) i176_140 rfl (x_alX (a := 20) (by decide) hn sh415 (by decide) g16) rfl rfl ?_
                    refine e_rt i176_141 rfl ?_
                    exact ⟨by unfold F176; simp only [if_pos c1, if_pos c2, if_neg (show ¬ ((gI h 405 a.toNatClampNeg) = 0) from (of_decide_eq_true c4)), if_neg c5, if_neg c7, if_neg c9, if_neg c11, if_neg c13, if_pos c15], rfl⟩
                  · replace hP := hP.2 c15
                    by_cases c17 : b = 6
                    · replace hP := hP.1 c17
                      refine e_tab (pc' := 142) i176_31 (by rw [c17]; rfl) ?_
                      refine e_ld (pc' := 143) i176_142 rfl rfl ?_
                      refine e_get (w := .ref 416) (pc' := 146) i176_143 rfl (x_isC (by decide) hn sh397) (x_fvR (by decide +kernel) (hL 397 20 416 lk397_20)) ?_
                      refine e_ld (pc' := 147) i176_146 rfl rfl ?_
                      obtain ⟨g18, hP⟩ := hP
                      refine e_al (n := a.toNatClampNeg) (w := .int (gI h 416 a.toNatClampNeg)) (pc' := 148) i176_147 rfl (x_alX (a := 22) (by decide) hn sh416 (by decide) g18) rfl rfl ?_
                      refine e_if (pc' := 151) i176_148 rfl (fun c19 => ?_) (fun c19 => ?_)
                      · replace hP := hP.1 (of_decide_eq_true c19)
                        refine e_cn (pc' := 156) i176_155 rfl ?_
                        refine e_rt i176_156 rfl ?_
                        exact ⟨by unfold F176; simp only [if_pos c1, if_pos c2, if_neg (show ¬ ((gI h 405 a.toNatClampNeg) = 0) from (of_decide_eq_true c4)), if_neg c5, if_neg c7, if_neg c9, if_neg c11, if_neg c13, if_neg c15, if_pos c17, if_pos (show (gI h 416 a.toNatClampNeg) = 0 from (of_decide_eq_true c19))], rfl⟩
                      · replace hP := hP.2 (of_decide_eq_false c19)
                        refine e_cn (pc' := 152) i176_151 rfl ?_
                        refine e_go i176_152 ?_
                        refine e_rt i176_156 rfl ?_
                        exact ⟨by unfold F176; simp only [if_pos c1, if_pos c2, if_neg (show ¬ ((gI h 405 a.toNatClampNeg) = 0) from (of_decide_eq_true c4)), if_neg c5, if_neg c7, if_neg c9, if_neg c11, if_neg c13, if_neg c15, if_pos c17, if_neg (show ¬ ((gI h 416 a.toNatClampNeg) = 0) from (of_decide_eq_false c19))], rfl⟩
                    · replace hP := hP.2 c17
                      by_cases c20 : b = 7
                      · replace hP := hP.1 c20
                        refine e_tab (pc' := 157) i176_31 (by rw [c20]; rfl) ?_
                        refine e_ld (pc' := 158) i176_157 rfl rfl ?_
                        refine e_get (w := .ref 417) (pc' := 161) i176_158 rfl (x_isC (by decide) hn sh397) (x_fvR (by decide +kernel) (hL 397 21 417 lk397_21)) ?_
                        refine e_cn (pc' := 162) i176_161 rfl ?_
                        refine e_ld (pc' := 163) i176_162 rfl rfl ?_
                        refine e_ib (z := 2 * a) (pc' := 164) i176_163 rfl rfl ?_
                        obtain ⟨g21, hP⟩ := hP
                        refine e_al (n := (2 * a).toNatClampNeg) (w := .int (gI h 417 ((2 * a).toNatClampNeg))) (pc' := 165) i176_164 rfl (x_alX (a := 20) (by decide) hn sh417 (by decide) g21) rfl rfl ?_
                        refine e_rt i176_165 rfl ?_
                        exact ⟨by unfold F176; simp only [if_pos c1, if_pos c2, if_neg (show ¬ ((gI h 405 a.toNatClampNeg) = 0) from (of_decide_eq_true c4)), if_neg c5, if_neg c7, if_neg c9, if_neg c11, if_neg c13, if_neg c15, if_neg c17, if_pos c20], rfl⟩
                      · replace hP := hP.2 c20
                        by_cases c22 : b = 8
                        · replace hP := hP.1 c22
                          refine e_tab (pc' := 166) i176_31 (by rw [c22]; rfl) ?_
                          refine e_ld (pc' := 167) i176_166 rfl rfl ?_
                          refine e_get (w := .ref 417) (pc' := 170) i176_167 rfl (x_isC (by decide) hn sh397) (x_fvR (by decide +kernel) (hL 397 21 417 lk397_21)) ?_
                          refine e_cn (pc' := 171) i176_170 rfl ?_
                          refine e_ld (pc' := 172) i176_171 rfl rfl ?_
                          refine e_ib (z := 2 * a) (pc' := 173) i176_172 rfl rfl ?_
                          refine e_cn (pc' := 174) i176_173 rfl ?_
                          refine e_ib (z := (2 * a) + 1) (pc' := 175) i176_174 rfl rfl ?_
                          obtain ⟨g23, hP⟩ := hP
                          refine e_al (n := ((2 * a) + 1).toNatClampNeg) (w := .int (gI h 417 (((2 * a) + 1).toNatClampNeg))) (pc' := 176) i176_175 rfl (x_alX (a := 20) (by decide) hn sh417 (by decide) g23) rfl rfl ?_
                          refine e_rt i176_176 rfl ?_
                          exact ⟨by unfold F176; simp only [if_pos c1, if_pos c2, if_neg (show ¬ ((gI h 405 a.toNatClampNeg) = 0) from (of_decide_eq_true c4)), if_neg c5, if_neg c7, if_neg c9, if_neg c11, if_neg c13, if_neg c15, if_neg c17, if_neg c20, if_pos c22], rfl⟩
                        · replace hP := hP.2 c22
                          by_cases c24 : b = 9
                          · replace hP := hP.1 c24
                            refine e_tab (pc' := 177) i176_31 (by rw [c24]; rfl) ?_
                            refine e_ld (pc' := 178) i176_177 rfl rfl ?_
                            refine e_get (w := .ref 418) (pc' := 181) i176_178 rfl (x_isC (by decide) hn sh397) (x_fvR (by decide +kernel) (hL 397 22 418 lk397_22)) ?_
                            refine e_ld (pc' := 182) i176_181 rfl rfl ?_
                            obtain ⟨g25, hP⟩ := hP
                            refine e_al (n := a.toNatClampNeg) (w := .int (gI h 418 a.toNatClampNeg)) (pc' := 183) i176_182 rfl (x_alX (a := 20) (by decide) hn sh418 (by decide) g25) rfl rfl ?_
                            refine e_rt i176_183 rfl ?_
                            exact ⟨by unfold F176; simp only [if_pos c1, if_pos c2, if_neg (show ¬ ((gI h 405 a.toNatClampNeg) = 0) from (of_decide_eq_true c4)), if_neg c5, if_neg c7, if_neg c9, if_neg c11, if_neg c13, if_neg c15, if_neg c17, if_neg c20, if_neg c22, if_pos c24], rfl⟩
                          · replace hP := hP.2 c24
                            by_cases c26 : b = 10
                            · replace hP := hP.1 c26
                              refine e_tab (pc' := 184) i176_31 (by rw [c26]; rfl) ?_
                              refine e_ld (pc' := 185) i176_184 rfl rfl ?_
                              refine e_get (w := .ref 419) (pc' := 188) i176_185 rfl (x_isC (by decide) hn sh397) (x_fvR (by decide +kernel) (hL 397 23 419 lk397_23)) ?_
                              refine e_ld (pc' := 189) i176_188 rfl rfl ?_
                              obtain ⟨g27, hP⟩ := hP
                              refine e_al (n := a.toNatClampNeg) (w := .int (gI h 419 a.toNatClampNeg)) (pc' := 190) i176_189 rfl (x_alX (a := 20) (by decide) hn sh419 (by decide) g27) rfl rfl ?_
                              refine e_rt i176_190 rfl ?_
                              exact ⟨by unfold F176; simp only [if_pos c1, if_pos c2, if_neg (show ¬ ((gI h 405 a.toNatClampNeg) = 0) from (of_decide_eq_true c4)), if_neg c5, if_neg c7, if_neg c9, if_neg c11, if_neg c13, if_neg c15, if_neg c17, if_neg c20, if_neg c22, if_neg c24, if_pos c26], rfl⟩
                            · replace hP := hP.2 c26
                              by_cases c28 : b = 11
                              · replace hP := hP.1 c28
                                refine e_tab (pc' := 191) i176_31 (by rw [c28]; rfl) ?_
                                refine e_ld (pc' := 192) i176_191 rfl rfl ?_
                                refine e_get (w := .ref 407) (pc' := 195) i176_192 rfl (x_isC (by decide) hn sh397) (x_fvR (by decide +kernel) (hL 397 10 407 lk397_10)) ?_
                                refine e_ld (pc' := 196) i176_195 rfl rfl ?_
                                obtain ⟨g29, hP⟩ := hP
                                refine e_al (n := a.toNatClampNeg) (w := .int (gI h 407 a.toNatClampNeg)) (pc' := 197) i176_196 rfl (x_alX (a := 20) (by decide) hn sh407 (by decide) g29) rfl rfl ?_
                                refine e_rt i176_197 rfl ?_
                                exact ⟨by unfold F176; simp only [if_pos c1, if_pos c2, if_neg (show ¬ ((gI h 405 a.toNatClampNeg) = 0) from (of_decide_eq_true c4)), if_neg c5, if_neg c7, if_neg c9, if_neg c11, if_neg c13, if_neg c15, if_neg c17, if_neg c20, if_neg c22, if_neg c24, if_neg c26, if_pos c28], rfl⟩
                              · replace hP := hP.2 c28
                                by_cases c30 : b = 12
                                · replace hP := hP.1 c30
                                  refine e_tab (pc' := 198) i176_31 (by rw [c30]; rfl) ?_
                                  refine e_ld (pc' := 199) i176_198 rfl rfl ?_
                                  refine e_get (w := .ref 408) (pc' := 202) i176_199 rfl (x_isC (by decide) hn sh397) (x_fvR (by decide +kernel) (hL 397 11 408 lk397_11)) ?_
                                  refine e_ld (pc' := 203) i176_202 rfl rfl ?_
                                  obtain ⟨g31, hP⟩ := hP
                                  refine e_al (n := a.toNatClampNeg) (w := .int (gI h 408 a.toNatClampNeg)) (pc' := 204) i176_203 rfl (x_alX (a := 20) (by decide) hn sh408 (by decide) g31) rfl rfl ?_
                                  refine e_rt i176_204 rfl ?_
                                  exact ⟨by unfold F176; simp only [if_pos c1, if_pos c2, if_neg (show ¬ ((gI h 405 a.toNatClampNeg) = 0) from (of_decide_eq_true c4)), if_neg c5, if_neg c7, if_neg c9, if_neg c11, if_neg c13, if_neg c15, if_neg c17, if_neg c20, if_neg c22, if_neg c24, if_neg c26, if_neg c28, if_pos c30], rfl⟩
                                · replace hP := hP.2 c30
                                  by_cases c32 : b = 13
                                  · replace hP := hP.1 c32
                                    refine e_tab (pc' := 205) i176_31 (by rw [c32]; rfl) ?_
                                    refine e_ld (pc' := 206) i176_205 rfl rfl ?_
                                    refine e_get (w := .ref 409) (pc' := 209) i176_206 rfl (x_isC (by decide) hn sh397) (x_fvR (by decide +kernel) (hL 397 12 409 lk397_12)) ?_
                                    refine e_ld (pc' := 210) i176_209 rfl rfl ?_
                                    obtain ⟨g33, hP⟩ := hP
                                    refine e_al (n := a.toNatClampNeg) (w := .int (gI h 409 a.toNatClampNeg)) (pc' := 211) i176_210 rfl (x_alX (a := 20) (by decide) hn sh409 (by decide) g33) rfl rfl ?_
                                    refine e_rt i176_211 rfl ?_
                                    exact ⟨by unfold F176; simp only [if_pos c1, if_pos c2, if_neg (show ¬ ((gI h 405 a.toNatClampNeg) = 0) from (of_decide_eq_true c4)), if_neg c5, if_neg c7, if_neg c9, if_neg c11, if_neg c13, if_neg c15, if_neg c17, if_neg c20, if_neg c22, if_neg c24, if_neg c26, if_neg c28, if_neg c30, if_pos c32], rfl⟩
                                  · replace hP := hP.2 c32
                                    replace hP := hP
                                    refine e_tab (pc' := 212) i176_31 (x_tgt_out (by decide) (fun k (hk : k < 14) => by rcases (show k = 0 ∨ k = 1 ∨ k = 2 ∨ k = 3 ∨ k = 4 ∨ k = 5 ∨ k = 6 ∨ k = 7 ∨ k = 8 ∨ k = 9 ∨ k = 10 ∨ k = 11 ∨ k = 12 ∨ k = 13 by omega) with rfl | rfl | rfl | rfl | rfl | rfl | rfl | rfl | rfl | rfl | rfl | rfl | rfl | rfl <;> assumption)) ?_
                                    refine e_ld (pc' := 213) i176_212 rfl rfl ?_
                                    refine e_get (w := .ref 410) (pc' := 216) i176_213 rfl (x_isC (by decide) hn sh397) (x_fvR (by decide +kernel) (hL 397 13 410 lk397_13)) ?_
                                    refine e_ld (pc' := 217) i176_216 rfl rfl ?_
                                    obtain ⟨g34, hP⟩ := hP
                                    refine e_al (n := a.toNatClampNeg) (w := .int (gI h 410 a.toNatClampNeg)) (pc' := 218) i176_217 rfl (x_alX (a := 20) (by decide) hn sh410 (by decide) g34) rfl rfl ?_
                                    refine e_rt i176_218 rfl ?_
                                    exact ⟨by unfold F176; simp only [if_pos c1, if_pos c2, if_neg (show ¬ ((gI h 405 a.toNatClampNeg) = 0) from (of_decide_eq_true c4)), if_neg c5, if_neg c7, if_neg c9, if_neg c11, if_neg c13, if_neg c15, if_neg c17, if_neg c20, if_neg c22, if_neg c24, if_neg c26, if_neg c28, if_neg c30, if_neg c32], rfl⟩
      · replace hP := hP.1 (Decidable.not_not.mp (of_decide_eq_false c4))
        refine e_cn (pc' := 29) i176_28 rfl ?_
        refine e_rt i176_29 rfl ?_
        exact ⟨by unfold F176; simp only [if_pos c1, if_pos c2, if_pos (show (gI h 405 a.toNatClampNeg) = 0 from (Decidable.not_not.mp (of_decide_eq_false c4)))], rfl⟩
    · replace hP := hP.2 (show ¬ (x_in3 b 0 14) = true by rw [c2]; decide)
      refine e_cn (pc' := 18) i176_17 rfl ?_
      refine e_rt i176_18 rfl ?_
      exact ⟨by unfold F176; simp only [if_pos c1, if_neg (show ¬ (x_in3 b 0 14) = true by rw [c2]; decide)], rfl⟩
/-- FloorTurnModel.sunk(I)I -/
def F177 (a : Int32) (h : Hp) : Int32 := if (x_isItem a) = true then (gI h 411 a.toNatClampNeg) else (0)
def P177 (a : Int32) (h : Hp) : Prop := (((x_isItem a) = true) → ((vp_in a 21) ∧ (True))) ∧ (¬ ((x_isItem a) = true) → (True))
set_option maxHeartbeats 8000000 in
theorem m177 {L : Nat} {xs : Nat → Int32} {h : Hp} {a : Int32} (hn : 444 ≤ h.1) (hL : LK h) (hP : P177 a h) : Sp L xs 177 [.ref 397, .int a] h (some (.int (F177 a h))) h := by
  unfold P177 at hP
  refine sp_of (ls := [some (.ref 397), some (.int a)]) rfl ?_
  refine e_ld (pc' := 1) i177_0 rfl rfl ?_
  refine e_cI (w := .int (b2i (x_isItem a))) (As := [.int a]) (rest := []) (pc' := 4) i177_1 rfl rfl rfl rfl rfl m126 ?_
  refine e_b0 (pc' := 7) i177_4 rfl (fun c1 => ?_) (fun c1 => ?_)
  · replace hP := hP.2 (show ¬ (x_isItem a) = true by rw [c1]; decide)
    refine e_cn (pc' := 17) i177_16 rfl ?_
    refine e_rt i177_17 rfl ?_
    exact ⟨by unfold F177; simp only [if_neg (show ¬ (x_isItem a) = true by rw [c1]; decide)], rfl⟩
  · replace hP := hP.1 c1
    refine e_ld (pc' := 8) i177_7 rfl rfl ?_
    refine e_get (w := .ref 411) (pc' := 11) i177_8 rfl (x_isC (by decide) hn sh397) (x_fvR (by decide +kernel) (hL 397 15 411 lk397_15)) ?_
    refine e_ld (pc' := 12) i177_11 rfl rfl ?_
    obtain ⟨g2, hP⟩ := hP
    refine e_al (n := a.toNatClampNeg) (w := .int (gI h 411 a.toNatClampNeg)) (pc' := 13) i177_12 rfl (x_alX (a := 20) (by decide) hn sh411 (by decide) g2) rfl rfl ?_
    refine e_go i177_13 ?_
    refine e_rt i177_17 rfl ?_
    exact ⟨by unfold F177; simp only [if_pos c1], rfl⟩
/-- FloorTurnModel.machines(I)I -/
def F183 (a : Int32) (h : Hp) : Int32 := if (x_in3 a 0 ((gI h 397 1) - 1)) = true then (gI h 441 a.toNatClampNeg) else (0)
def P183 (a : Int32) (h : Hp) : Prop := (((x_in3 a 0 ((gI h 397 1) - 1)) = true) → ((vp_in a 8) ∧ (True))) ∧ (¬ ((x_in3 a 0 ((gI h 397 1) - 1)) = true) → (True))
set_option maxHeartbeats 8000000 in
theorem m183 {L : Nat} {xs : Nat → Int32} {h : Hp} {a : Int32} (hn : 444 ≤ h.1) (hL : LK h) (hP : P183 a h) : Sp L xs 183 [.ref 397, .int a] h (some (.int (F183 a h))) h := by
  unfold P183 at hP
  refine sp_of (ls := [some (.ref 397), some (.int a)]) rfl ?_
  refine e_ld (pc' := 1) i183_0 rfl rfl ?_
  refine e_cn (pc' := 2) i183_1 rfl ?_
  refine e_ld (pc' := 3) i183_2 rfl rfl ?_
  refine e_get (w := .int (gI h 397 1)) (pc' := 6) i183_3 rfl (x_isC (by decide) hn sh397) rfl ?_
  refine e_cn (pc' := 7) i183_6 rfl ?_
  refine e_ib (z := (gI h 397 1) - 1) (pc' := 8) i183_7 rfl rfl ?_
  refine e_cI (w := .int (b2i (x_in3 a 0 ((gI h 397 1) - 1)))) (As := [.int a, .int 0, .int ((gI h 397 1) - 1)]) (rest := []) (pc' := 11) i183_8 rfl rfl rfl rfl rfl m123 ?_
  refine e_b0 (pc' := 14) i183_11 rfl (fun c1 => ?_) (fun c1 => ?_)
  · replace hP := hP.2 (show ¬ (x_in3 a 0 ((gI h 397 1) - 1)) = true by rw [c1]; decide)
    refine e_cn (pc' := 24) i183_23 rfl ?_
    refine e_rt i183_24 rfl ?_
    exact ⟨by unfold F183; simp only [if_neg (show ¬ (x_in3 a 0 ((gI h 397 1) - 1)) = true by rw [c1]; decide)], rfl⟩
  · replace hP := hP.1 c1
    refine e_ld (pc' := 15) i183_14 rfl rfl ?_
    refine e_get (w := .ref 441) (pc' := 18) i183_15 rfl (x_isC (by decide) hn sh397) (x_fvR (by decide +kernel) (hL 397 48 441 lk397_48)) ?_
    refine e_ld (pc' := 19) i183_18 rfl rfl ?_
    obtain ⟨g2, hP⟩ := hP
    refine e_al (n := a.toNatClampNeg) (w := .int (gI h 441 a.toNatClampNeg)) (pc' := 20) i183_19 rfl (x_alX (a := 20) (by decide) hn sh441 (by decide) g2) rfl rfl ?_
    refine e_go i183_20 ?_
    refine e_rt i183_24 rfl ?_
    exact ⟨by unfold F183; simp only [if_pos c1], rfl⟩
/-- FloorTurnModel.rate(IZ)J -/
def F184 (a : Int32) (b : Bool) (h : Hp) : Int64 := if (x_isItem a) = true then (if b = true then (gL h 438 a.toNatClampNeg) else (gL h 437 a.toNatClampNeg)) else (if b = true then (1) else (0))
def P184 (a : Int32) (b : Bool) (h : Hp) : Prop := (((x_isItem a) = true) → (((b = true) → ((vp_in a 21) ∧ (True))) ∧ (¬ (b = true) → ((vp_in a 21) ∧ (True))))) ∧ (¬ ((x_isItem a) = true) → (((b = true) → (True)) ∧ (¬ (b = true) → (True))))
set_option maxHeartbeats 8000000 in
theorem m184 {L : Nat} {xs : Nat → Int32} {h : Hp} {a : Int32} {b : Bool} (hn : 444 ≤ h.1) (hL : LK h) (hP : P184 a b h) : Sp L xs 184 [.ref 397, .int a, .int (b2i b)] h (some (.long (F184 a b h))) h := by
  unfold P184 at hP
  refine sp_of (ls := [some (.ref 397), some (.int a), some (.int (b2i b))]) rfl ?_
  refine e_ld (pc' := 1) i184_0 rfl rfl ?_
  refine e_cI (w := .int (b2i (x_isItem a))) (As := [.int a]) (rest := []) (pc' := 4) i184_1 rfl rfl rfl rfl rfl m126 ?_
  refine e_b1 (pc' := 7) i184_4 rfl (fun c1 => ?_) (fun c1 => ?_)
  · replace hP := hP.1 c1
    refine e_ld (pc' := 20) i184_19 rfl rfl ?_
    refine e_b0 (pc' := 23) i184_20 rfl (fun c2 => ?_) (fun c2 => ?_)
    · replace hP := hP.2 (show ¬ b = true by rw [c2]; decide)
      refine e_ld (pc' := 33) i184_32 rfl rfl ?_
      refine e_get (w := .ref 437) (pc' := 36) i184_33 rfl (x_isC (by decide) hn sh397) (x_fvR (by decide +kernel) (hL 397 44 437 lk397_44)) ?_
      refine e_ld (pc' := 37) i184_36 rfl rfl ?_
      obtain ⟨g3, hP⟩ := hP
      refine e_al (n := a.toNatClampNeg) (w := .long (gL h 437 a.toNatClampNeg)) (pc' := 38) i184_37 rfl (x_alX (a := 21) (by decide) hn sh437 (by decide) g3) rfl rfl ?_
      refine e_rt i184_38 rfl ?_
      exact ⟨by unfold F184; simp only [if_pos c1, if_neg (show ¬ b = true by rw [c2]; decide)], rfl⟩
    · replace hP := hP.1 c2
      refine e_ld (pc' := 24) i184_23 rfl rfl ?_
      refine e_get (w := .ref 438) (pc' := 27) i184_24 rfl (x_isC (by decide) hn sh397) (x_fvR (by decide +kernel) (hL 397 45 438 lk397_45)) ?_
      refine e_ld (pc' := 28) i184_27 rfl rfl ?_
      obtain ⟨g4, hP⟩ := hP
      refine e_al (n := a.toNatClampNeg) (w := .long (gL h 438 a.toNatClampNeg)) (pc' := 29) i184_28 rfl (x_alX (a := 21) (by decide) hn sh438 (by decide) g4) rfl rfl ?_
      refine e_go i184_29 ?_
      refine e_rt i184_38 rfl ?_
      exact ⟨by unfold F184; simp only [if_pos c1, if_pos c2], rfl⟩
  · replace hP := hP.2 (show ¬ (x_isItem a) = true by rw [c1]; decide)
    refine e_ld (pc' := 8) i184_7 rfl rfl ?_
    refine e_b0 (pc' := 11) i184_8 rfl (fun c5 => ?_) (fun c5 => ?_)
    · replace hP := hP.2 (show ¬ b = true by rw [c5]; decide)
      refine e_cn (pc' := 16) i184_15 rfl ?_
      refine e_go i184_16 ?_
      refine e_rt i184_38 rfl ?_
      exact ⟨by unfold F184; simp only [if_neg (show ¬ (x_isItem a) = true by rw [c1]; decide), if_neg (show ¬ b = true by rw [c5]; decide)], rfl⟩
    · replace hP := hP.1 c5
      refine e_cn (pc' := 12) i184_11 rfl ?_
      refine e_go i184_12 ?_
      refine e_rt i184_38 rfl ?_
      exact ⟨by unfold F184; simp only [if_neg (show ¬ (x_isItem a) = true by rw [c1]; decide), if_pos c5], rfl⟩
/-- FloorTurnModel.mayGive(I)Z -/
def F187 (a : Int32) (h : Hp) : Bool := if (x_isCell a) = true then (if (gI h 405 a.toNatClampNeg) = 0 then (false) else (if (gI h 405 a.toNatClampNeg) = 2 then (false) else (if (gI h 405 a.toNatClampNeg) = 7 then (false) else (true)))) else (false)
def P187 (a : Int32) (h : Hp) : Prop := (((x_isCell a) = true) → ((vp_in a 144) ∧ ((((gI h 405 a.toNatClampNeg) = 0) → (True)) ∧ (¬ ((gI h 405 a.toNatClampNeg) = 0) → ((vp_in a 144) ∧ ((((gI h 405 a.toNatClampNeg) = 2) → (True)) ∧ (¬ ((gI h 405 a.toNatClampNeg) = 2) → ((vp_in a 144) ∧ ((((gI h 405 a.toNatClampNeg) = 7) → (True)) ∧ (¬ ((gI h 405 a.toNatClampNeg) = 7) → (True))))))))))) ∧ (¬ ((x_isCell a) = true) → (True))
set_option maxHeartbeats 8000000 in
theorem m187 {L : Nat} {xs : Nat → Int32} {h : Hp} {a : Int32} (hn : 444 ≤ h.1) (hL : LK h) (hP : P187 a h) : Sp L xs 187 [.ref 397, .int a] h (some (.int (b2i (F187 a h)))) h := by
  unfold P187 at hP
  refine sp_of (ls := [some (.ref 397), some (.int a)]) rfl ?_
  refine e_ld (pc' := 1) i187_0 rfl rfl ?_
  refine e_cI (w := .int (b2i (x_isCell a))) (As := [.int a]) (rest := []) (pc' := 4) i187_1 rfl rfl rfl rfl rfl m125 ?_
  refine e_b0 (pc' := 7) i187_4 rfl (fun c1 => ?_) (fun c1 => ?_)
  · replace hP := hP.2 (show ¬ (x_isCell a) = true by rw [c1]; decide)
    refine e_cn (pc' := 42) i187_41 rfl ?_
    refine e_rt i187_42 rfl ?_
    exact ⟨by unfold F187; simp only [if_neg (show ¬ (x_isCell a) = true by rw [c1]; decide)]; rfl, rfl⟩
  · replace hP := hP.1 c1
    refine e_ld (pc' := 8) i187_7 rfl rfl ?_
    refine e_get (w := .ref 405) (pc' := 11) i187_8 rfl (x_isC (by decide) hn sh397) (x_fvR (by decide +kernel) (hL 397 8 405 lk397_8)) ?_
    refine e_ld (pc' := 12) i187_11 rfl rfl ?_
    obtain ⟨g2, hP⟩ := hP
    refine e_al (n := a.toNatClampNeg) (w := .int (gI h 405 a.toNatClampNeg)) (pc' := 13) i187_12 rfl (x_alX (a := 20) (by decide) hn sh405 (by decide) g2) rfl rfl ?_
    refine e_if (pc' := 16) i187_13 rfl (fun c3 => ?_) (fun c3 => ?_)
    · replace hP := hP.1 (of_decide_eq_true c3)
      refine e_cn (pc' := 42) i187_41 rfl ?_
      refine e_rt i187_42 rfl ?_
      exact ⟨by unfold F187; simp only [if_pos c1, if_pos (show (gI h 405 a.toNatClampNeg) = 0 from (of_decide_eq_true c3))]; rfl, rfl⟩
    · replace hP := hP.2 (of_decide_eq_false c3)
      refine e_ld (pc' := 17) i187_16 rfl rfl ?_
      refine e_get (w := .ref 405) (pc' := 20) i187_17 rfl (x_isC (by decide) hn sh397) (x_fvR (by decide +kernel) (hL 397 8 405 lk397_8)) ?_
      refine e_ld (pc' := 21) i187_20 rfl rfl ?_
      obtain ⟨g4, hP⟩ := hP
      refine e_al (n := a.toNatClampNeg) (w := .int (gI h 405 a.toNatClampNeg)) (pc' := 22) i187_21 rfl (x_alX (a := 20) (by decide) hn sh405 (by decide) g4) rfl rfl ?_
      refine e_cn (pc' := 23) i187_22 rfl ?_
      refine e_ic (pc' := 26) i187_23 rfl (fun c5 => ?_) (fun c5 => ?_)
      · replace hP := hP.1 (of_decide_eq_true c5)
        refine e_cn (pc' := 42) i187_41 rfl ?_
        refine e_rt i187_42 rfl ?_
        exact ⟨by unfold F187; simp only [if_pos c1, if_neg (show ¬ ((gI h 405 a.toNatClampNeg) = 0) from (of_decide_eq_false c3)), if_pos (show (gI h 405 a.toNatClampNeg) = 2 from (of_decide_eq_true c5))]; rfl, rfl⟩
      · replace hP := hP.2 (of_decide_eq_false c5)
        refine e_ld (pc' := 27) i187_26 rfl rfl ?_
        refine e_get (w := .ref 405) (pc' := 30) i187_27 rfl (x_isC (by decide) hn sh397) (x_fvR (by decide +kernel) (hL 397 8 405 lk397_8)) ?_
        refine e_ld (pc' := 31) i187_30 rfl rfl ?_
        obtain ⟨g6, hP⟩ := hP
        refine e_al (n := a.toNatClampNeg) (w := .int (gI h 405 a.toNatClampNeg)) (pc' := 32) i187_31 rfl (x_alX (a := 20) (by decide) hn sh405 (by decide) g6) rfl rfl ?_
        refine e_cn (pc' := 34) i187_32 rfl ?_
        refine e_ic (pc' := 37) i187_34 rfl (fun c7 => ?_) (fun c7 => ?_)
        · replace hP := hP.1 (of_decide_eq_true c7)
          refine e_cn (pc' := 42) i187_41 rfl ?_
          refine e_rt i187_42 rfl ?_
          exact ⟨by unfold F187; simp only [if_pos c1, if_neg (show ¬ ((gI h 405 a.toNatClampNeg) = 0) from (of_decide_eq_false c3)), if_neg (show ¬ ((gI h 405 a.toNatClampNeg) = 2) from (of_decide_eq_false c5)), if_pos (show (gI h 405 a.toNatClampNeg) = 7 from (of_decide_eq_true c7))]; rfl, rfl⟩
        · replace hP := hP.2 (of_decide_eq_false c7)
          refine e_cn (pc' := 38) i187_37 rfl ?_
          refine e_go i187_38 ?_
          refine e_rt i187_42 rfl ?_
          exact ⟨by unfold F187; simp only [if_pos c1, if_neg (show ¬ ((gI h 405 a.toNatClampNeg) = 0) from (of_decide_eq_false c3)), if_neg (show ¬ ((gI h 405 a.toNatClampNeg) = 2) from (of_decide_eq_false c5)), if_neg (show ¬ ((gI h 405 a.toNatClampNeg) = 7) from (of_decide_eq_false c7))]; rfl, rfl⟩
/-- FloorTurnModel.mayTake(I)Z -/
def F188 (a : Int32) (h : Hp) : Bool := if (x_isCell a) = true then (if (gI h 405 a.toNatClampNeg) = 0 then (false) else (if (gI h 405 a.toNatClampNeg) = 3 then (false) else (if (gI h 405 a.toNatClampNeg) = 5 then (false) else (true)))) else (false)
def P188 (a : Int32) (h : Hp) : Prop := (((x_isCell a) = true) → ((vp_in a 144) ∧ ((((gI h 405 a.toNatClampNeg) = 0) → (True)) ∧ (¬ ((gI h 405 a.toNatClampNeg) = 0) → ((vp_in a 144) ∧ ((((gI h 405 a.toNatClampNeg) = 3) → (True)) ∧ (¬ ((gI h 405 a.toNatClampNeg) = 3) → ((vp_in a 144) ∧ ((((gI h 405 a.toNatClampNeg) = 5) → (True)) ∧ (¬ ((gI h 405 a.toNatClampNeg) = 5) → (True))))))))))) ∧ (¬ ((x_isCell a) = true) → (True))
set_option maxHeartbeats 8000000 in
theorem m188 {L : Nat} {xs : Nat → Int32} {h : Hp} {a : Int32} (hn : 444 ≤ h.1) (hL : LK h) (hP : P188 a h) : Sp L xs 188 [.ref 397, .int a] h (some (.int (b2i (F188 a h)))) h := by
  unfold P188 at hP
  refine sp_of (ls := [some (.ref 397), some (.int a)]) rfl ?_
  refine e_ld (pc' := 1) i188_0 rfl rfl ?_
  refine e_cI (w := .int (b2i (x_isCell a))) (As := [.int a]) (rest := []) (pc' := 4) i188_1 rfl rfl rfl rfl rfl m125 ?_
  refine e_b0 (pc' := 7) i188_4 rfl (fun c1 => ?_) (fun c1 => ?_)
  · replace hP := hP.2 (show ¬ (x_isCell a) = true by rw [c1]; decide)
    refine e_cn (pc' := 41) i188_40 rfl ?_
    refine e_rt i188_41 rfl ?_
    exact ⟨by unfold F188; simp only [if_neg (show ¬ (x_isCell a) = true by rw [c1]; decide)]; rfl, rfl⟩
  · replace hP := hP.1 c1
    refine e_ld (pc' := 8) i188_7 rfl rfl ?_
    refine e_get (w := .ref 405) (pc' := 11) i188_8 rfl (x_isC (by decide) hn sh397) (x_fvR (by decide +kernel) (hL 397 8 405 lk397_8)) ?_
    refine e_ld (pc' := 12) i188_11 rfl rfl ?_
    obtain ⟨g2, hP⟩ := hP
    refine e_al (n := a.toNatClampNeg) (w := .int (gI h 405 a.toNatClampNeg)) (pc' := 13) i188_12 rfl (x_alX (a := 20) (by decide) hn sh405 (by decide) g2) rfl rfl ?_
    refine e_if (pc' := 16) i188_13 rfl (fun c3 => ?_) (fun c3 => ?_)
    · replace hP := hP.1 (of_decide_eq_true c3)
      refine e_cn (pc' := 41) i188_40 rfl ?_
      refine e_rt i188_41 rfl ?_
      exact ⟨by unfold F188; simp only [if_pos c1, if_pos (show (gI h 405 a.toNatClampNeg) = 0 from (of_decide_eq_true c3))]; rfl, rfl⟩
    · replace hP := hP.2 (of_decide_eq_false c3)
      refine e_ld (pc' := 17) i188_16 rfl rfl ?_
      refine e_get (w := .ref 405) (pc' := 20) i188_17 rfl (x_isC (by decide) hn sh397) (x_fvR (by decide +kernel) (hL 397 8 405 lk397_8)) ?_
      refine e_ld (pc' := 21) i188_20 rfl rfl ?_
      obtain ⟨g4, hP⟩ := hP
      refine e_al (n := a.toNatClampNeg) (w := .int (gI h 405 a.toNatClampNeg)) (pc' := 22) i188_21 rfl (x_alX (a := 20) (by decide) hn sh405 (by decide) g4) rfl rfl ?_
      refine e_cn (pc' := 23) i188_22 rfl ?_
      refine e_ic (pc' := 26) i188_23 rfl (fun c5 => ?_) (fun c5 => ?_)
      · replace hP := hP.1 (of_decide_eq_true c5)
        refine e_cn (pc' := 41) i188_40 rfl ?_
        refine e_rt i188_41 rfl ?_
        exact ⟨by unfold F188; simp only [if_pos c1, if_neg (show ¬ ((gI h 405 a.toNatClampNeg) = 0) from (of_decide_eq_false c3)), if_pos (show (gI h 405 a.toNatClampNeg) = 3 from (of_decide_eq_true c5))]; rfl, rfl⟩
      · replace hP := hP.2 (of_decide_eq_false c5)
        refine e_ld (pc' := 27) i188_26 rfl rfl ?_
        refine e_get (w := .ref 405) (pc' := 30) i188_27 rfl (x_isC (by decide) hn sh397) (x_fvR (by decide +kernel) (hL 397 8 405 lk397_8)) ?_
        refine e_ld (pc' := 31) i188_30 rfl rfl ?_
        obtain ⟨g6, hP⟩ := hP
        refine e_al (n := a.toNatClampNeg) (w := .int (gI h 405 a.toNatClampNeg)) (pc' := 32) i188_31 rfl (x_alX (a := 20) (by decide) hn sh405 (by decide) g6) rfl rfl ?_
        refine e_cn (pc' := 33) i188_32 rfl ?_
        refine e_ic (pc' := 36) i188_33 rfl (fun c7 => ?_) (fun c7 => ?_)
        · replace hP := hP.1 (of_decide_eq_true c7)
          refine e_cn (pc' := 41) i188_40 rfl ?_
          refine e_rt i188_41 rfl ?_
          exact ⟨by unfold F188; simp only [if_pos c1, if_neg (show ¬ ((gI h 405 a.toNatClampNeg) = 0) from (of_decide_eq_false c3)), if_neg (show ¬ ((gI h 405 a.toNatClampNeg) = 3) from (of_decide_eq_false c5)), if_pos (show (gI h 405 a.toNatClampNeg) = 5 from (of_decide_eq_true c7))]; rfl, rfl⟩
        · replace hP := hP.2 (of_decide_eq_false c7)
          refine e_cn (pc' := 37) i188_36 rfl ?_
          refine e_go i188_37 ?_
          refine e_rt i188_41 rfl ?_
          exact ⟨by unfold F188; simp only [if_pos c1, if_neg (show ¬ ((gI h 405 a.toNatClampNeg) = 0) from (of_decide_eq_false c3)), if_neg (show ¬ ((gI h 405 a.toNatClampNeg) = 3) from (of_decide_eq_false c5)), if_neg (show ¬ ((gI h 405 a.toNatClampNeg) = 5) from (of_decide_eq_false c7))]; rfl, rfl⟩
