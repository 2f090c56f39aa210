/-! The reference's floor as rows: cell c of bank b. -/
def AD (b c j : Nat) : Nat × Nat := match j with
  | 0 => (405, c)
  | 1 => (406, c)
  | 2 => (407, c)
  | 3 => (408, c)
  | 5 => (412, 144 * b + c)
  | 6 => (413, 144 * b + c)
  | 7 => (417, 2 * (144 * b + c))
  | 8 => (417, 2 * (144 * b + c) + 1)
  | 9 => (414, 144 * b + c)
  | 10 => (415, 144 * b + c)
  | 11 => (416, 144 * b + c)
  | 12 => (418, 144 * b + c)
  | 13 => (419, 144 * b + c)
  | 14 => (431, c)
  | 15 => (432, c)
  | 16 => (433, c)
  | _ => (0, 0)
def MV (h : Hp) (b c : Nat) : Row := fun j => gI h (AD b c j).1 (AD b c j).2
def sM (h : Hp) (b c j : Nat) (v : Int32) : Hp := sI h (AD b c j).1 (AD b c j).2 v
def ARc (r j : Nat) : Nat × Nat := match j with
  | 0 => (400, r)
  | 1 => (399, r)
  | 2 => (401, r)
  | 3 => (404, r)
  | 4 => (402, 2 * r)
  | 5 => (403, 2 * r)
  | 6 => (402, 2 * r + 1)
  | 7 => (403, 2 * r + 1)
  | _ => (0, 0)
def MRc (h : Hp) : Nat → Row := fun r j => gI h (ARc r j).1 (ARc r j).2
/-- the reference's objects that a step may write -/
def mtc (a : Nat) : Prop := a = 397 ∨ a = 411 ∨ (412 ≤ a ∧ a ≤ 419) ∨ (427 ≤ a ∧ a ≤ 433)
theorem AD_dec (b c b' c' : Nat) (hc : c < 144) (hc' : c' < 144) : ∀ j, 5 ≤ j → j ≤ 16 → ∀ j', (AD b' c' j' = AD b c j ↔ j' = j ∧ c' = c ∧ (j ≤ 13 → b' = b)) := by
  intro j h1 h2 j'
  rcases (show j = 5 ∨ j = 6 ∨ j = 7 ∨ j = 8 ∨ j = 9 ∨ j = 10 ∨ j = 11 ∨ j = 12 ∨ j = 13 ∨ j = 14 ∨ j = 15 ∨ j = 16 by omega) with rfl | rfl | rfl | rfl | rfl | rfl | rfl | rfl | rfl | rfl | rfl | rfl
  all_goals
    unfold AD
    split <;> simp <;> first | omega | (intro q; simp_all)
theorem MV_sM (h : Hp) {b c b' c' j : Nat} (v : Int32) (hc : c < 144) (hc' : c' < 144) (h1 : 5 ≤ j) (h2 : j ≤ 16) (j' : Nat) : MV (sM h b c j v) b' c' j' = if j' = j ∧ c' = c ∧ (j ≤ 13 → b' = b) then v else MV h b' c' j' := by
  show gI (sI h (AD b c j).1 (AD b c j).2 v) (AD b' c' j').1 (AD b' c' j').2 = _
  rw [gI_sI]
  have e := AD_dec b c b' c' hc hc' j h1 h2 j'
  have e2 : ((AD b' c' j').1 = (AD b c j).1 ∧ (AD b' c' j').2 = (AD b c j).2) ↔ AD b' c' j' = AD b c j := ⟨fun q => Prod.ext q.1 q.2, fun q => by rw [q]; exact ⟨rfl, rfl⟩⟩
  by_cases q : AD b' c' j' = AD b c j
  · rw [if_pos (e2.mpr q), if_pos (e.mp q)]
  · rw [if_neg (fun z => q (e2.mp z)), if_neg (fun z => q (e.mpr z))]
    rfl
/-- only the row of cell c of bank b has changed: it is y now -/
def RS (h h' : Hp) (b c : Nat) (y : Row) : Prop := IE h h' ∧ SX h h' mtc ∧ gI h' 397 = gI h 397 ∧ gI h' 411 = gI h 411 ∧ (∀ a, 427 ≤ a → a ≤ 430 → gI h' a = gI h a) ∧ MV h' b c = y ∧ (∀ c', c' < 144 → ¬ c' = c → MV h' b c' = MV h b c') ∧ (∀ b' c' j, ¬ b' = b → c' < 144 → j ≤ 13 → MV h' b' c' j = MV h b' c' j)
theorem RS_r (h : Hp) (b c : Nat) : RS h h b c (MV h b c) := ⟨IE_r h, SX_r h _, rfl, rfl, fun _ _ _ => rfl, rfl, fun _ _ _ => rfl, fun _ _ _ _ _ _ => rfl⟩
theorem AD_ob (b c : Nat) : ∀ j, 5 ≤ j → j ≤ 16 → (412 ≤ (AD b c j).1 ∧ (AD b c j).1 ≤ 419) ∨ (431 ≤ (AD b c j).1 ∧ (AD b c j).1 ≤ 433) := by
  intro j h1 h2
  rcases (show j = 5 ∨ j = 6 ∨ j = 7 ∨ j = 8 ∨ j = 9 ∨ j = 10 ∨ j = 11 ∨ j = 12 ∨ j = 13 ∨ j = 14 ∨ j = 15 ∨ j = 16 by omega) with rfl | rfl | rfl | rfl | rfl | rfl | rfl | rfl | rfl | rfl | rfl | rfl <;> simp [AD]
theorem RS_s {h0 h : Hp} {b c : Nat} {y : Row} (S : RS h0 h b c y) (hc : c < 144) (j : Nat) (h1 : 5 ≤ j) (h2 : j ≤ 16) (v : Int32) : RS h0 (sM h b c j v) b c (up y j v) := by
  obtain ⟨s1, s2, s3, s4, s5, s6, s7, s8⟩ := S
  have ob := AD_ob b c j h1 h2
  have o : ∀ a, ¬ a = (AD b c j).1 → gI (sM h b c j v) a = gI h a := fun a ha => gIo ha
  refine ⟨IE_s s1, fun a ha => ?_, ?_, ?_, fun a a1 a2 => ?_, ?_, fun c' hc' hne => ?_, fun b' c' j' hb hc' hj => ?_⟩
  · rw [o a (by unfold mtc at ha; omega)]
    exact s2 a ha
  · rw [o _ (by omega)]; exact s3
  · rw [o _ (by omega)]; exact s4
  · rw [o _ (by omega)]; exact s5 a a1 a2
  · funext j'
    rw [MV_sM h v hc hc h1 h2, up_a, s6]
    by_cases q : j' = j
    · rw [if_pos q, if_pos ⟨q, rfl, fun _ => rfl⟩]
    · rw [if_neg q, if_neg (fun z => q z.1)]
  · funext j'
    rw [MV_sM h v hc hc' h1 h2, if_neg (fun z => hne z.2.1), s7 c' hc' hne]
  · rw [MV_sM h v hc hc' h1 h2, if_neg (fun z => hb (z.2.2 (z.1 ▸ hj))), s8 b' c' j' hb hc' hj]
theorem ix1 (b c : Nat) : 144 * nI b + nI c = nI (144 * b + c) := by
  show nI 144 * nI b + nI c = _
  rw [pk_mul, nI_add]
theorem ix2 (b c : Nat) : 2 * (144 * nI b + nI c) = nI (2 * (144 * b + c)) := by
  rw [ix1]
  show nI 2 * nI _ = _
  rw [pk_mul]
theorem ix3 (b c : Nat) : 2 * (144 * nI b + nI c) + 1 = nI (2 * (144 * b + c) + 1) := by
  rw [ix2, nI_1]
theorem ix4 (a : Nat) : 2 * nI a = nI (2 * a) := by
  show nI 2 * nI _ = _
  rw [pk_mul]
theorem ix5 (a : Nat) : 2 * nI a + 1 = nI (2 * a + 1) := by
  rw [ix4, nI_1]
section MR
variable {L : Nat} {xs : Nat → Int32} {h : Hp} {b c : Nat} {R : Nat → Row}
/-- what the reference's equal-signs ask where the class asks less -/
def PW (R : Nat → Row) (x : Row) : Prop := (x 0 = 6 → (∃ a, a < 8 ∧ x 2 = nI a) ∧ (¬ x 11 = 0 → (x 10 + 1 < rc R x 2 ∨ x 10 + 1 = rc R x 2))) ∧ (x 0 = 5 → x 5 = 0 → (x 6 + 1 < x 3 ∨ x 6 + 1 = x 3))
theorem begR (hw : HW h) (hb : b < 3) (hc : c < 144) {h0 : Hp} {x : Row} (S : RS h0 h b c x) {a : Nat} (ha : a < 8) (e2 : gI h 407 c = nI a) (hR : MRc h = R) {Q : Option Value → Hp → Prop} (hQ : ∀ h', RS h0 h' b c (begW (R a) x) → Q none h') : (((gI h 399 a) < (gI h 414 (144 * b + c))) → (Q none h)) ∧ (¬ ((gI h 399 a) < (gI h 414 (144 * b + c))) → (∃ k15 : Nat, (2 * ((144 * nI b) + nI c)) = nI k15 ∧ k15 < 864 ∧ ∃ k18 : Nat, (2 * (gI h 407 c)) = nI k18 ∧ k18 < 16 ∧ (((gI h 417 k15) < (gI h 403 k18)) → (Q none h)) ∧ (¬ ((gI h 417 k15) < (gI h 403 k18)) → (∃ k24 : Nat, ((2 * ((144 * nI b) + nI c)) + 1) = nI k24 ∧ k24 < 864 ∧ ∃ k27 : Nat, ((2 * (gI h 407 c)) + 1) = nI k27 ∧ k27 < 16 ∧ (((gI h 417 k24) < (gI h 403 k27)) → (Q none h)) ∧ (¬ ((gI h 417 k24) < (gI h 403 k27)) → (Q none (sI (sI (sI (sI h 417 k15 ((gI h 417 k15) - (gI h 403 k18))) 417 k24 ((gI (sI h 417 k15 ((gI h 417 k15) - (gI h 403 k18))) 417 k24) - (gI h 403 k27))) 416 (144 * b + c) 1) 415 (144 * b + c) 0))))))) := by
  have r1 : gI h 399 a = R a 1 := congrFun (congrFun hR a) 1
  have r5 : gI h 403 (2 * a) = R a 5 := congrFun (congrFun hR a) 5
  have r7 : gI h 403 (2 * a + 1) = R a 7 := congrFun (congrFun hR a) 7
  have x9 : gI h 414 (144 * b + c) = x 9 := congrFun S.2.2.2.2.2.1 9
  have x7 : gI h 417 (2 * (144 * b + c)) = x 7 := congrFun S.2.2.2.2.2.1 7
  have x8 : gI h 417 (2 * (144 * b + c) + 1) = x 8 := congrFun S.2.2.2.2.2.1 8
  refine ⟨fun q1 => ?_, fun q1 => ⟨_, ix2 b c, by omega, 2 * a, by rw [e2, ix4], by omega, fun q2 => ?_, fun q2 => ⟨_, ix3 b c, by omega, 2 * a + 1, by rw [e2, ix5], by omega, fun q3 => ?_, fun q3 => ?_⟩⟩⟩
  · apply hQ
    rw [r1, x9] at q1
    rw [begW, if_pos q1]
    exact S
  · apply hQ
    rw [r1, x9] at q1
    rw [x7, r5] at q2
    rw [begW, if_neg q1, if_pos q2]
    exact S
  · apply hQ
    rw [r1, x9] at q1
    rw [x7, r5] at q2
    rw [x8, r7] at q3
    rw [begW, if_neg q1, if_neg q2, if_pos q3]
    exact S
  · apply hQ
    have e8 : gI (sI h 417 (2 * (144 * b + c)) (gI h 417 (2 * (144 * b + c)) - gI h 403 (2 * a))) 417 (2 * (144 * b + c) + 1) = x 8 := by rw [gI_ksI (by omega), x8]
    rw [r1, x9] at q1
    rw [e8, x7, r5, r7]
    rw [x7, r5] at q2
    rw [x8, r7] at q3
    rw [begW, if_neg q1, if_neg q2, if_neg q3]
    exact RS_s (RS_s (RS_s (RS_s S hc 7 (by decide) (by decide) _) hc 8 (by decide) (by decide) _) hc 11 (by decide) (by decide) _) hc 10 (by decide) (by decide) _
theorem c155 (hw : HW h) (hb : b < 3) (hc : c < 144) (hR : MRc h = R) (k6 : MV h b c 0 = 6) (hp : PW R (MV h b c)) : ∃ h', Sp L xs 155 [.ref 397, .int (nI b), .int (nI c)] h none h' ∧ RS h h' b c (prpM (rc R (MV h b c)) (MV h b c)) := by
  obtain ⟨⟨a, ha, e2⟩, hwk⟩ := hp.1 k6
  have er : rc R (MV h b c) = R a := by unfold rc; rw [e2, nI_c (by omega)]
  rw [er] at hwk ⊢
  have e2 : gI h 407 c = nI a := e2
  have r1 : gI h 399 a = R a 1 := congrFun (congrFun hR a) 1
  have r2 : gI h 401 a = R a 2 := congrFun (congrFun hR a) 2
  have key : ∃ r h', Sp L xs 155 [.ref 397, .int (nI b), .int (nI c)] h r h' ∧ (r = none ∧ RS h h' b c (prpM (R a) (MV h b c))) := by
    refine v155 hw ⟨c, rfl, hc, 144 * b + c, ix1 b c, by omega, fun q => ?_, fun q => ⟨a, e2, ha, fun q2 => ⟨fun q3 => ?_, fun q3 => ?_⟩, fun q2 => ?_⟩⟩
    · refine ⟨a, e2, ha, begR (Q := fun r h' => r = none ∧ RS h h' b c (prpM (R a) (MV h b c))) hw hb hc (RS_r h b c) ha e2 hR (fun h' s => ⟨rfl, ?_⟩)⟩
      have q : MV h b c 11 = 0 := q
      rw [prpM, if_pos q]
      exact s
    · have q : ¬ MV h b c 11 = 0 := q
      have e : gI (sI h 415 (144 * b + c) (gI h 415 (144 * b + c) + 1)) 415 (144 * b + c) = MV h b c 10 + 1 := by rw [gIs, up_s]; rfl
      rw [e, r2] at q2
      have hrun : runW (R a) (MV h b c) = up (up (up (up (up (MV h b c) 10 (MV h b c 10 + 1)) 9 (MV h b c 9 + R a 1)) 11 0) 10 0) 16 (MV h b c 16 + 1) := by
        rw [runW, if_neg (by rw [q2]; exact Int32.lt_irrefl)]
        funext j
        simp only [up_a]
        by_cases j16 : j = 16
        · rw [if_pos j16, if_pos j16]
        · rw [if_neg j16, if_neg j16]
          by_cases j10 : j = 10
          · rw [if_pos j10, if_pos j10]
          · simp [j10]
      have hS : RS h (sI (sI (sI (sI (sI h 415 (144 * b + c) ((gI h 415 (144 * b + c)) + 1)) 414 (144 * b + c) ((gI h 414 (144 * b + c)) + (gI h 399 a))) 416 (144 * b + c) 0) 415 (144 * b + c) 0) 433 c ((gI h 433 c) + 1)) b c (runW (R a) (MV h b c)) := by
        rw [hrun, r1]
        exact RS_s (RS_s (RS_s (RS_s (RS_s (RS_r h b c) hc 10 (by decide) (by decide) _) hc 9 (by decide) (by decide) _) hc 11 (by decide) (by decide) _) hc 10 (by decide) (by decide) _) hc 16 (by decide) (by decide) _
      have hrun11 : runW (R a) (MV h b c) 11 = 0 := by rw [hrun]; rfl
      have hpm : prpM (R a) (MV h b c) = begW (R a) (runW (R a) (MV h b c)) := by rw [prpM, if_neg q, if_pos hrun11]
      generalize hh : (sI (sI (sI (sI (sI h 415 (144 * b + c) ((gI h 415 (144 * b + c)) + 1)) 414 (144 * b + c) ((gI h 414 (144 * b + c)) + (gI h 399 a))) 416 (144 * b + c) 0) 415 (144 * b + c) 0) 433 c ((gI h 433 c) + 1)) = h5 at hS ⊢
      have o : ∀ z, ¬ z = 415 → ¬ z = 414 → ¬ z = 416 → ¬ z = 433 → gI h5 z = gI h z := by
        intro z z1 z2 z3 z4
        rw [← hh, gIo z4, gIo z1, gIo z3, gIo z2, gIo z1]
      have f14 : gI (sI (sI h 415 (144 * b + c) ((gI h 415 (144 * b + c)) + 1)) 414 (144 * b + c) ((gI h 414 (144 * b + c)) + (gI h 399 a))) 414 (144 * b + c) = gI h5 414 (144 * b + c) := by
        rw [← hh, gIo (show (414 : Nat) ≠ 433 by decide), gIo (show (414 : Nat) ≠ 415 by decide), gIo (show (414 : Nat) ≠ 416 by decide)]
      have hR5 : MRc h5 = R := by
        rw [← hR]
        funext r j
        show gI h5 _ _ = gI h _ _
        have : ∀ r j, 399 ≤ (ARc r j).1 ∧ (ARc r j).1 ≤ 404 ∨ (ARc r j).1 = 0 := by
          intro r j
          unfold ARc
          split <;> simp
        have := this r j
        rw [o _ (by omega) (by omega) (by omega) (by omega)]
      have hw5 : HW h5 := IE_w hS.1 hw
      have := begR (Q := fun r h' => r = none ∧ RS h h' b c (prpM (R a) (MV h b c))) hw5 hb hc hS ha (by rw [o 407 (by decide) (by decide) (by decide) (by decide)]; exact e2) hR5 (fun h' s => ⟨rfl, by rw [hpm]; exact s⟩)
      rw [f14]
      rw [o 407 (by decide) (by decide) (by decide) (by decide), o 399 (by decide) (by decide) (by decide) (by decide), o 417 (by decide) (by decide) (by decide) (by decide), o 403 (by decide) (by decide) (by decide) (by decide)] at this
      exact this
    · exact absurd (by rw [gIs, up_s]) q3
    · have q : ¬ MV h b c 11 = 0 := q
      have e : gI (sI h 415 (144 * b + c) (gI h 415 (144 * b + c) + 1)) 415 (144 * b + c) = MV h b c 10 + 1 := by rw [gIs, up_s]; rfl
      rw [e, r2] at q2
      have hlt : MV h b c 10 + 1 < R a 2 := (hwk q).resolve_right q2
      have hrun : runW (R a) (MV h b c) = up (MV h b c) 10 (MV h b c 10 + 1) := by rw [runW, if_pos hlt]
      have hpm : prpM (R a) (MV h b c) = runW (R a) (MV h b c) := by
        rw [prpM, if_neg q, if_neg]
        rw [hrun, up_o (by decide)]
        exact q
      refine ⟨rfl, ?_⟩
      rw [hpm, hrun]
      exact RS_s (RS_r h b c) hc 10 (by decide) (by decide) _
  obtain ⟨r, h', s1, rfl, s2⟩ := key
  exact ⟨h', s1, s2⟩
end MR
