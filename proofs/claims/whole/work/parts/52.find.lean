/-! The reference looks for the turn. -/
/-- a bank holds the table (the counters apart) -/
def PJ (k : Nat) (R T : Nat → Row) (h : Hp) (b : Nat) : Prop := ∀ c, c < 144 → GR k R (T c) ∧ T c 0 = MV h b c 0 ∧ (¬ T c 0 = 0 → ∀ j, j < 14 → ¬ j = 4 → T c j = MV h b c j) ∧ SR (MV h b c)
/-- what the reference's search may change -/
def FM (h h' : Hp) : Prop := IE h h' ∧ SX h h' mtc ∧ (∀ c j, c < 144 → j < 14 → MV h' 0 c j = MV h 0 c j) ∧ (∀ i, i < 21 → gI h' 411 i = gI h 411 i) ∧ (∀ j, ¬ j = 35 → ¬ j = 36 → gI h' 397 j = gI h 397 j)
theorem FM_r (h : Hp) : FM h h := ⟨IE_r h, SX_r h _, fun _ _ _ _ => rfl, fun _ _ => rfl, fun _ _ _ => rfl⟩
theorem FM_t {a b c : Hp} (h1 : FM a b) (h2 : FM b c) : FM a c := ⟨IE_t h1.1 h2.1, SX_t h1.2.1 h2.2.1, fun x j hx hj => (h2.2.2.1 x j hx hj).trans (h1.2.2.1 x j hx hj), fun i hi => (h2.2.2.2.1 i hi).trans (h1.2.2.2.1 i hi), fun j h5 h6 => (h2.2.2.2.2 j h5 h6).trans (h1.2.2.2.2 j h5 h6)⟩
section FI
variable {L : Nat} {xs : Nat → Int32} {h : Hp} {k : Nat} {R T : Nat → Row}
theorem PJ_PI {b : Nat} (p : PJ k R T h b) : PI k R (fun c => offs (T c) (MV h b c)) T h b := fun c hc => ⟨(p c hc).1, RE_off (p c hc).2.1 (p c hc).2.2.1, (p c hc).2.2.2⟩
theorem PI_PJ {b : Nat} {o : Nat → Row} (p : PI k R o T h b) : PJ k R T h b := fun c hc => ⟨(p c hc).1, (p c hc).2.1.1, fun q => ((p c hc).2.1.2 q).1, (p c hc).2.2⟩
theorem SR_e {x y : Row} (e : ∀ j, j < 14 → x j = y j) (s : SR y) : SR x := by
  unfold SR
  rw [e 0 (by decide), e 5 (by decide), e 12 (by decide), e 13 (by decide), e 11 (by decide)]
  exact s
theorem PJ_e {b : Nat} {h' : Hp} (e : ∀ c j, c < 144 → j < 14 → MV h' b c j = MV h b c j) (p : PJ k R T h b) : PJ k R T h' b := by
  intro c hc
  obtain ⟨p1, p2, p3, p4⟩ := p c hc
  exact ⟨p1, p2.trans (e c 0 hc (by decide)).symm, fun q j hj h4 => (p3 q j hj h4).trans (e c j hc hj).symm, SR_e (fun j hj => e c j hc hj) p4⟩
theorem c167l {to as : Nat} (ht : to < 3) (ha : as < 3) (hne : ¬ to = as) (h0 : Hp) (hw0 : HW h0) (hs : ∀ c, c < 144 → x_ok01 (MV h0 as c 11) = true) : ∀ (m n : Nat) (h : Hp) (z4 z5 : Option Value), n + m = 144 → IE h0 h → SX h0 h (fun a => 412 ≤ a ∧ a ≤ 419) → (∀ b c j, c < 144 → j < 14 → MV h b c j = if b = to ∧ c < n ∧ 5 ≤ j then MV h0 as c j else MV h0 b c j) → WP L xs 167 2 [some (.ref 397), some (.int (nI to)), some (.int (nI as)), some (.int (nI n)), z4, z5] [] h (fun r h' => r = none ∧ IE h0 h' ∧ SX h0 h' (fun a => 412 ≤ a ∧ a ≤ 419) ∧ (∀ b c j, c < 144 → j < 14 → MV h' b c j = if b = to ∧ 5 ≤ j then MV h0 as c j else MV h0 b c j))
  | 0, n, h, z4, z5, hn, i0, s0, e => by
    obtain rfl : n = 144 := by omega
    refine v167_2 (IE_w i0 hw0) ⟨fun _ => ⟨rfl, i0, s0, fun b c j hc hj => ?_⟩, fun q => absurd (nI_le (Nat.le_refl _) (by decide)) q⟩
    rw [e b c j hc hj]
    have l : (b = to ∧ c < 144 ∧ 5 ≤ j) = (b = to ∧ 5 ≤ j) := propext (by omega)
    simp only [l]
  | m + 1, n, h, z4, z5, hn, i0, s0, e => by
    have hn4 : n < 144 := by omega
    have src : ∀ j, 5 ≤ j → j < 14 → MV h as n j = MV h0 as n j := fun j h5 hj => by rw [e as n j hn4 hj, if_neg (fun z => hne z.1.symm)]
    have o11 : x_ok01 (gI h 416 (144 * as + n)) = true := by
      have := src 11 (by decide) (by decide)
      show x_ok01 (MV h as n 11) = true
      rw [this]
      exact hs n hn4
    refine v167_2 (IE_w i0 hw0) ⟨fun q => absurd q (nI_ge hn4 (by decide)), fun _ => ⟨144 * as + n, ix1 as n, by omega, 144 * to + n, ix1 to n, by omega, o11, 2 * (144 * as + n), ix2 as n, by omega, 2 * (144 * to + n), ix2 to n, by omega, 2 * (144 * as + n) + 1, ix3 as n, by omega, 2 * (144 * to + n) + 1, ix3 to n, by omega, ?_⟩⟩
    rw [nI_1]
    have e8 : gI (sI (sI (sI (sI (sI (sI h 412 (144 * to + n) (gI h 412 (144 * as + n))) 413 (144 * to + n) (gI h 413 (144 * as + n))) 414 (144 * to + n) (gI h 414 (144 * as + n))) 415 (144 * to + n) (gI h 415 (144 * as + n))) 416 (144 * to + n) (gI h 416 (144 * as + n))) 417 (2 * (144 * to + n)) (gI h 417 (2 * (144 * as + n)))) 417 (2 * (144 * as + n) + 1) = MV h as n 8 := by
      rw [gI_ksI (by omega), gIo (by decide), gIo (by decide), gIo (by decide), gIo (by decide), gIo (by decide)]
      rfl
    rw [e8]
    have S : RS h (sI (sI (sI (sI (sI (sI (sI (sI (sI h 412 (144 * to + n) (gI h 412 (144 * as + n))) 413 (144 * to + n) (gI h 413 (144 * as + n))) 414 (144 * to + n) (gI h 414 (144 * as + n))) 415 (144 * to + n) (gI h 415 (144 * as + n))) 416 (144 * to + n) (gI h 416 (144 * as + n))) 417 (2 * (144 * to + n)) (gI h 417 (2 * (144 * as + n)))) 417 (2 * (144 * to + n) + 1) (MV h as n 8)) 418 (144 * to + n) (gI h 418 (144 * as + n))) 419 (144 * to + n) (gI h 419 (144 * as + n))) to n (up (up (up (up (up (up (up (up (up (MV h to n) 5 (MV h as n 5)) 6 (MV h as n 6)) 9 (MV h as n 9)) 10 (MV h as n 10)) 11 (MV h as n 11)) 7 (MV h as n 7)) 8 (MV h as n 8)) 12 (MV h as n 12)) 13 (MV h as n 13)) :=
      RS_s (RS_s (RS_s (RS_s (RS_s (RS_s (RS_s (RS_s (RS_s (RS_r h to n) hn4 5 (by decide) (by decide) _) hn4 6 (by decide) (by decide) _) hn4 9 (by decide) (by decide) _) hn4 10 (by decide) (by decide) _) hn4 11 (by decide) (by decide) _) hn4 7 (by decide) (by decide) _) hn4 8 (by decide) (by decide) _) hn4 12 (by decide) (by decide) _) hn4 13 (by decide) (by decide) _
    have sx : SX h (sI (sI (sI (sI (sI (sI (sI (sI (sI h 412 (144 * to + n) (gI h 412 (144 * as + n))) 413 (144 * to + n) (gI h 413 (144 * as + n))) 414 (144 * to + n) (gI h 414 (144 * as + n))) 415 (144 * to + n) (gI h 415 (144 * as + n))) 416 (144 * to + n) (gI h 416 (144 * as + n))) 417 (2 * (144 * to + n)) (gI h 417 (2 * (144 * as + n)))) 417 (2 * (144 * to + n) + 1) (MV h as n 8)) 418 (144 * to + n) (gI h 418 (144 * as + n))) 419 (144 * to + n) (gI h 419 (144 * as + n))) (fun a => 412 ≤ a ∧ a ≤ 419) := by
      intro a ha
      rw [gIo (by omega), gIo (by omega), gIo (by omega), gIo (by omega), gIo (by omega), gIo (by omega), gIo (by omega), gIo (by omega), gIo (by omega)]
    generalize (sI (sI (sI (sI (sI (sI (sI (sI (sI h 412 (144 * to + n) (gI h 412 (144 * as + n))) 413 (144 * to + n) (gI h 413 (144 * as + n))) 414 (144 * to + n) (gI h 414 (144 * as + n))) 415 (144 * to + n) (gI h 415 (144 * as + n))) 416 (144 * to + n) (gI h 416 (144 * as + n))) 417 (2 * (144 * to + n)) (gI h 417 (2 * (144 * as + n)))) 417 (2 * (144 * to + n) + 1) (MV h as n 8)) 418 (144 * to + n) (gI h 418 (144 * as + n))) 419 (144 * to + n) (gI h 419 (144 * as + n))) = h9 at S sx ⊢
    obtain ⟨q1, q2, q3, q4, q5, q6, q7, q8⟩ := S
    refine c167l ht ha hne h0 hw0 hs m (n + 1) h9 _ _ (by omega) (IE_t i0 q1) (SX_t s0 sx) (fun b c j hc hj => ?_)
    by_cases hb : b = to
    · subst hb
      by_cases hcn : c = n
      · subst hcn
        rw [q6]
        by_cases h5 : 5 ≤ j
        · rw [if_pos ⟨rfl, Nat.lt_succ_self _, h5⟩, ← src j h5 hj]
          rcases (show j = 5 ∨ j = 6 ∨ j = 7 ∨ j = 8 ∨ j = 9 ∨ j = 10 ∨ j = 11 ∨ j = 12 ∨ j = 13 by omega) with rfl | rfl | rfl | rfl | rfl | rfl | rfl | rfl | rfl <;> rfl
        · rw [if_neg (fun z => h5 z.2.2), up_o (by omega), up_o (by omega), up_o (by omega), up_o (by omega), up_o (by omega), up_o (by omega), up_o (by omega), up_o (by omega), up_o (by omega), e b c j hc hj, if_neg (fun z => h5 z.2.2)]
      · rw [q7 c hc hcn, e b c j hc hj]
        have l : (c < n + 1) = (c < n) := propext (by omega)
        simp only [l]
    · rw [q8 b c j hb hc (by omega), e b c j hc hj, if_neg (fun z => hb z.1), if_neg (fun z => hb z.1)]
theorem c167 {to as : Nat} (ht : to < 3) (ha : as < 3) (hne : ¬ to = as) (hw : HW h) (p : PJ k R T h as) : ∃ h', Sp L xs 167 [.ref 397, .int (nI to), .int (nI as)] h none h' ∧ IE h h' ∧ SX h h' (fun a => 412 ≤ a ∧ a ≤ 419) ∧ PJ k R T h' to ∧ (∀ b c j, ¬ b = to → c < 144 → j < 14 → MV h' b c j = MV h b c j) := by
  obtain ⟨r, h', s1, rfl, i1, x1, e⟩ := v167 (L := L) (xs := xs) hw (c167l ht ha hne h hw (fun c hc => (p c hc).2.2.2.2.2.2) 144 0 h _ _ rfl (IE_r h) (SX_r h _) (fun b c j _ _ => by rw [if_neg (fun z => Nat.not_lt_zero _ z.2.1)]))
  have st : ∀ c j, j < 4 → MV h to c j = MV h as c j := by
    intro c j hj
    rcases (show j = 0 ∨ j = 1 ∨ j = 2 ∨ j = 3 by omega) with rfl | rfl | rfl | rfl <;> rfl
  refine ⟨h', s1, i1, x1, fun c hc => ?_, fun b c j hb hc hj => by rw [e b c j hc hj, if_neg (fun z => hb z.1)]⟩
  obtain ⟨p1, p2, p3, p4⟩ := p c hc
  have row : ∀ j, j < 14 → ¬ j = 4 → MV h' to c j = MV h as c j := by
    intro j hj h4
    rw [e to c j hc hj]
    by_cases h5 : 5 ≤ j
    · rw [if_pos ⟨rfl, h5⟩]
    · rw [if_neg (fun z => h5 z.2)]
      exact st c j (by omega)
  refine ⟨p1, p2.trans (row 0 (by decide) (by decide)).symm, fun q j hj h4 => (p3 q j hj h4).trans (row j hj h4).symm, ?_⟩
  unfold SR
  rw [row 0 (by decide) (by decide), row 5 (by decide) (by decide), row 12 (by decide) (by decide), row 13 (by decide) (by decide), row 11 (by decide) (by decide)]
  exact p4
theorem c168l {A B : Nat → Row} {p q : Nat} (hp : p < 3) (hq : q < 3) (hw : HW h) (pa : PJ k R A h p) (pb : PJ k R B h q) (hst : ∀ c, c < 144 → A c 0 = B c 0) : ∀ (m n : Nat) (z4 z5 z6 : Option Value), n + m = 144 → (∀ c, c < n → ∀ j, 5 ≤ j → j < 14 → A c j = B c j) → WP L xs 168 2 [some (.ref 397), some (.int (nI p)), some (.int (nI q)), some (.int (nI n)), z4, z5, z6] [] h (fun r h' => h' = h ∧ ∃ b : Bool, r = some (.int (b2i b)) ∧ (b = true ↔ EQS A B))
  | 0, n, z4, z5, z6, hn, e => by
    obtain rfl : n = 144 := by omega
    exact v168_2 hw ⟨fun _ => ⟨rfl, true, rfl, fun _ => e, fun _ => rfl⟩, fun z => absurd (nI_le (Nat.le_refl _) (by decide)) z⟩
  | m + 1, n, z4, z5, z6, hn, e => by
    have hn4 : n < 144 := by omega
    obtain ⟨a1, a2, a3, a4⟩ := pa n hn4
    obtain ⟨b1, b2, b3, b4⟩ := pb n hn4
    have go : (∀ j, 5 ≤ j → j < 14 → A n j = B n j) → ∀ z4 z5 z6, WP L xs 168 2 [some (.ref 397), some (.int (nI p)), some (.int (nI q)), some (.int (nI n + 1)), z4, z5, z6] [] h (fun r h' => h' = h ∧ ∃ b : Bool, r = some (.int (b2i b)) ∧ (b = true ↔ EQS A B)) := by
      intro y z4 z5 z6
      rw [nI_1]
      refine c168l hp hq hw pa pb hst m (n + 1) z4 z5 z6 (by omega) (fun c hc => ?_)
      by_cases e2 : c = n
      · subst e2; exact y
      · exact e c (by omega)
    have no : ∀ j, 5 ≤ j → j < 14 → ¬ A n j = B n j → (h = h ∧ ∃ b : Bool, some (Value.int 0) = some (.int (b2i b)) ∧ (b = true ↔ EQS A B)) := fun j h5 hj y => ⟨rfl, false, rfl, fun z => (by cases z), fun z => absurd (z n hn4 j h5 hj) y⟩
    refine v168_2 hw ⟨fun z => absurd z (nI_ge hn4 (by decide)), fun _ => ⟨n, rfl, hn4, fun z => ?_, fun z => ?_⟩⟩
    · have k0 : A n 0 = 0 := a2.trans z
      have k0' : B n 0 = 0 := b2.trans z
      refine go (fun j h5 hj => ?_) _ _ _
      rw [a1.2.1 k0 j (by omega) (by omega), b1.2.1 k0' j (by omega) (by omega)]
    · have k0 : ¬ A n 0 = 0 := fun y => z (a2.symm.trans y)
      have k0' : ¬ B n 0 = 0 := fun y => z (b2.symm.trans y)
      have av : ∀ j, 5 ≤ j → j < 14 → A n j = MV h p n j := fun j h5 hj => a3 k0 j hj (by omega)
      have bv : ∀ j, 5 ≤ j → j < 14 → B n j = MV h q n j := fun j h5 hj => b3 k0' j hj (by omega)
      have ab : ∀ j, 5 ≤ j → j < 14 → (MV h p n j = MV h q n j ↔ A n j = B n j) := fun j h5 hj => by rw [av j h5 hj, bv j h5 hj]
      have c5 : (gI h 412 (144 * p + n) = gI h 412 (144 * q + n)) ↔ A n 5 = B n 5 := ab 5 (by decide) (by decide)
      have c6 : (gI h 413 (144 * p + n) = gI h 413 (144 * q + n)) ↔ A n 6 = B n 6 := ab 6 (by decide) (by decide)
      have c9 : (gI h 414 (144 * p + n) = gI h 414 (144 * q + n)) ↔ A n 9 = B n 9 := ab 9 (by decide) (by decide)
      have c10 : (gI h 415 (144 * p + n) = gI h 415 (144 * q + n)) ↔ A n 10 = B n 10 := ab 10 (by decide) (by decide)
      have c11 : ((if gI h 416 (144 * p + n) = gI h 416 (144 * q + n) then true else false) = true) ↔ A n 11 = B n 11 := by
        rw [iteb, decide_eq_true_iff]
        exact ab 11 (by decide) (by decide)
      have c7 : (gI h 417 (2 * (144 * p + n)) = gI h 417 (2 * (144 * q + n))) ↔ A n 7 = B n 7 := ab 7 (by decide) (by decide)
      have c8 : (gI h 417 (2 * (144 * p + n) + 1) = gI h 417 (2 * (144 * q + n) + 1)) ↔ A n 8 = B n 8 := ab 8 (by decide) (by decide)
      have c12 : (gI h 418 (144 * p + n) = gI h 418 (144 * q + n)) ↔ A n 12 = B n 12 := ab 12 (by decide) (by decide)
      have c13 : (gI h 419 (144 * p + n) = gI h 419 (144 * q + n)) ↔ A n 13 = B n 13 := ab 13 (by decide) (by decide)
      refine ⟨144 * p + n, ix1 p n, by omega, 144 * q + n, ix1 q n, by omega, fun y5 => ⟨fun y6 => ⟨fun y9 => ⟨fun y10 => ⟨fun y11 => ⟨_, ix2 p n, by omega, _, ix2 q n, by omega, fun y7 => ⟨_, ix3 p n, by omega, _, ix3 q n, by omega, fun y8 => ⟨fun y12 => ⟨fun y13 => go (fun j h5 hj => ?_) _ _ _, fun y => no 13 (by decide) (by decide) (fun w => y (c13.mpr w))⟩, fun y => no 12 (by decide) (by decide) (fun w => y (c12.mpr w))⟩, fun y => no 8 (by decide) (by decide) (fun w => y (c8.mpr w))⟩, fun y => no 7 (by decide) (by decide) (fun w => y (c7.mpr w))⟩, fun y => no 11 (by decide) (by decide) (fun w => y (c11.mpr w))⟩, fun y => no 10 (by decide) (by decide) (fun w => y (c10.mpr w))⟩, fun y => no 9 (by decide) (by decide) (fun w => y (c9.mpr w))⟩, fun y => no 6 (by decide) (by decide) (fun w => y (c6.mpr w))⟩, fun y => no 5 (by decide) (by decide) (fun w => y (c5.mpr w))⟩
      rcases (show j = 5 ∨ j = 6 ∨ j = 7 ∨ j = 8 ∨ j = 9 ∨ j = 10 ∨ j = 11 ∨ j = 12 ∨ j = 13 by omega) with rfl | rfl | rfl | rfl | rfl | rfl | rfl | rfl | rfl
      · exact c5.mp y5
      · exact c6.mp y6
      · exact c7.mp y7
      · exact c8.mp y8
      · exact c9.mp y9
      · exact c10.mp y10
      · exact c11.mp y11
      · exact c12.mp y12
      · exact c13.mp y13
theorem c168 {A B : Nat → Row} {p q : Nat} (hp : p < 3) (hq : q < 3) (hw : HW h) (pa : PJ k R A h p) (pb : PJ k R B h q) (hst : ∀ c, c < 144 → A c 0 = B c 0) : ∃ b : Bool, Sp L xs 168 [.ref 397, .int (nI p), .int (nI q)] h (some (.int (b2i b))) h ∧ (b = true ↔ EQS A B) := by
  obtain ⟨r, h', s1, rfl, b, rfl, e⟩ := v168 (L := L) (xs := xs) hw (c168l hp hq hw pa pb hst 144 0 _ _ _ rfl (fun c hc => absurd hc (Nat.not_lt_zero _)))
  exact ⟨b, s1, e⟩
/-- a step of bank 1 or 2 -/
theorem c162j {b : Nat} (hb : b < 3) (hb0 : ¬ b = 0) (hw : HW h) (hr : RR k R (MRc h)) (hB : GB k R) (hk : k < 9) (p : PJ k R T h b) : ∃ h', Sp L xs 162 [.ref 397, .int (nI b)] h none h' ∧ PJ k R (stp R T) h' b ∧ FM h h' ∧ (∀ b' c j, ¬ b' = b → c < 144 → j < 14 → MV h' b' c j = MV h b' c j) := by
  obtain ⟨h', s1, s2, s3, s4, s5, s6, s7, s8, s9⟩ := c162x (L := L) (xs := xs) hb hw hr hB hk (PJ_PI p)
  refine ⟨h', s1, PI_PJ s2, ⟨s3, s4, fun c j hc hj => s5 0 c j (fun e => hb0 e.symm) hc (by omega), fun i hi => ?_, s9⟩, fun b' c j hb' hc hj => s5 b' c j hb' hc (by omega)⟩
  rw [s6 i hi, if_neg hb0, Int32.add_zero]
theorem FM_cp {h h' : Hp} {to : Nat} (ht : ¬ to = 0) (i : IE h h') (s : SX h h' (fun a => 412 ≤ a ∧ a ≤ 419)) (e : ∀ b c j, ¬ b = to → c < 144 → j < 14 → MV h' b c j = MV h b c j) : FM h h' := ⟨i, fun a ha => s a (fun q => ha (by unfold mtc; omega)), fun c j hc hj => e 0 c j (fun z => ht z.symm) hc hj, fun i _ => by rw [s 411 (by omega)], fun j _ _ => by rw [s 397 (by omega)]⟩
end FI
